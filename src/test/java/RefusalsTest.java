import java.util.ArrayList;
import java.util.List;

/**
 * "A call that answers a refusal changes nothing, but for put(), where it is said": of two objects that have had the
 * same calls one gets a refused call more, and from then on both must answer the same.
 */
final class RefusalsTest {
    private interface Call {
        long on(ClearingFiles x);
    }

    private static final long TOO_GREAT = 1000000000000000000L;

    public static void main(String[] args) {
        refusedJoins();
        refusedOpens();
        refusedShuts();
        refusedPuts();
        refusedWindows();
        refusedPosts();
        refusedQuestions();
        answersOfAllKinds();
        refusedWhenFull();
        Check.finish();
    }

    /** B's output is done in part, A has one with a return, C has entries that wait, and a batch is under way. */
    private static ClearingFiles busy() {
        ClearingFiles x = House.ofThree();
        x.open(1, 13, 10);
        x.shut(1, 13);
        TestFile file = new TestFile(House.A, 1);
        file.batch(House.A, 1, 0).entry(2, House.B, 13, 7, 1).entry(2, House.B, 26, 8, 2)
                .entry(7, House.B, House.IN_B, 9, 3).entry(7, House.B, House.IN_B, 10, 4).control();
        file.batch(House.C, 2, 1).entry(2, House.C, House.IN_C, 11, 1).entry(2, House.A, House.IN_A, 12, 2).control();
        file.send(x);
        x.window(1);
        x.post(1, 1);
        x.window(0);
        x.post(1, 2);
        Records.put(x, Records.header(House.B, 1));
        Records.put(x, Records.batch(House.B, 1, 1));
        Records.put(x, Records.entry(2, House.C, House.IN_C, 5, 1));
        return x;
    }

    private static ClearingFiles full() {
        ClearingFiles x = busy();
        x.join(2268);
        x.join(5005);
        int opened = 4;
        for (int number = 999999; opened < 12; number--) {
            if (x.open(opened % 5, number, 1)) {
                opened++;
            }
        }
        return x;
    }

    private static void look(ClearingFiles x, List<Long> answers) {
        for (int bank = 0; bank < 5; bank++) {
            answers.add((long) x.items(bank));
            answers.add(x.ledger(bank));
            answers.add((long) x.waiting(bank, 0));
            answers.add((long) x.waiting(bank, 1));
            for (int k = 0; k < x.items(bank); k++) {
                answers.add((long) x.item(bank, k, 3));
                answers.add((long) x.item(bank, k, 6));
            }
            for (int which = 0; which <= 3; which++) {
                answers.add(x.control(bank, which));
            }
        }
        for (int reason = 0; reason <= 33; reason++) {
            answers.add((long) x.rejected(reason));
        }
        answers.add(x.balance(0, House.IN_A));
        answers.add(x.balance(1, House.IN_B));
        answers.add(x.balance(1, 13));
        answers.add(x.balance(2, House.IN_C));
        answers.add(x.balance(1, 26));
        answers.add(x.balance(4, 26));
    }

    /** Looks, ends the file under way, goes on with calls of every kind, and looks again. */
    private static List<Long> rest(ClearingFiles x) {
        List<Long> answers = new ArrayList<>();
        look(x, answers);
        answers.add((long) Records.put(x, Records.batchControl(1, House.C, 0, 5)));
        answers.add((long) Records.put(x, Records.fileControl(1, 1, House.C, 0, 5)));
        answers.add((long) x.join(2268));
        answers.add((long) x.join(5005));
        answers.add((long) x.join(7003));
        for (int account = 0; account < 200; account += 13) {
            answers.add(x.open(0, account, 1) ? 1L : 0L);
        }
        answers.add(x.shut(1, 13) ? 1L : 0L);
        answers.add(x.shut(2, House.IN_C) ? 1L : 0L);
        answers.add((long) x.day());
        answers.add((long) x.post(0, 1));
        answers.add((long) x.post(1, 40));
        for (int bank = 0; bank < 3; bank++) {
            answers.add((long) x.window(bank));
        }
        look(x, answers);
        return answers;
    }

    private static void refused(String name, long due, Call call) {
        refused(name, due, call, busy(), busy());
    }

    private static void refused(String name, long due, Call call, ClearingFiles x, ClearingFiles twin) {
        Check.due(name, call.on(x), due);
        List<Long> got = rest(x);
        List<Long> want = rest(twin);
        Check.due(name + ": how many answers", got.size(), want.size());
        for (int k = 0; k < Math.min(got.size(), want.size()); k++) {
            Check.due(name + ": answer " + k + " after it", got.get(k), want.get(k));
        }
    }

    private static void refusedJoins() {
        refused("join(-1)", ClearingFiles.BAD, x -> x.join(-1));
        refused("join(-13)", ClearingFiles.BAD, x -> x.join(-13));
        refused("join(10000)", ClearingFiles.BAD, x -> x.join(10000));
        refused("join(2269)", ClearingFiles.BAD, x -> x.join(2269));
        refused("join(A)", ClearingFiles.BAD, x -> x.join(House.A));
    }

    private static void refusedOpens() {
        refused("no bank -1", 0, x -> x.open(-1, 26, 1) ? 1 : 0);
        refused("no bank 3", 0, x -> x.open(3, 26, 1) ? 1 : 0);
        refused("account -13", 0, x -> x.open(0, -13, 1) ? 1 : 0);
        refused("account 1000000", 0, x -> x.open(0, 1000000, 1) ? 1 : 0);
        refused("account 27", 0, x -> x.open(1, 27, 1) ? 1 : 0);
        refused("balance -1", 0, x -> x.open(1, 26, -1) ? 1 : 0);
        refused("balance 1000001", 0, x -> x.open(1, 26, 1000001) ? 1 : 0);
        refused("an open one", 0, x -> x.open(1, House.IN_B, 99) ? 1 : 0);
        refused("a shut one", 0, x -> x.open(1, 13, 99) ? 1 : 0);
    }

    private static void refusedShuts() {
        refused("shut at no bank", 0, x -> x.shut(3, House.IN_B) ? 1 : 0);
        refused("shut at bank -1", 0, x -> x.shut(-1, House.IN_B) ? 1 : 0);
        refused("shut of another bank's", 0, x -> x.shut(0, House.IN_B) ? 1 : 0);
        refused("shut again", 0, x -> x.shut(1, 13) ? 1 : 0);
    }

    /** A header in the low numbers, a control, and what may not come: being BAD, none of them is looked at. */
    private static void refusedPuts() {
        refused("high -1", ClearingFiles.BAD, x -> x.put(-1, 0));
        refused("low -1", ClearingFiles.BAD, x -> x.put(800010016340000000L, -1));
        refused("low -1 of a header", ClearingFiles.BAD, x -> x.put(110090002000000000L, -1));
        refused("high too great", ClearingFiles.BAD, x -> x.put(TOO_GREAT, 0));
        refused("low too great", ClearingFiles.BAD, x -> x.put(0, TOO_GREAT));
        refused("both least", ClearingFiles.BAD, x -> x.put(Long.MIN_VALUE, Long.MIN_VALUE));
        refused("both greatest", ClearingFiles.BAD, x -> x.put(Long.MAX_VALUE, Long.MAX_VALUE));
    }

    private static void refusedWindows() {
        refused("window(-1)", ClearingFiles.BAD, x -> x.window(-1));
        refused("window(3)", ClearingFiles.BAD, x -> x.window(3));
        refused("a return not taken", ClearingFiles.OPEN, x -> x.window(0));
        refused("an entry not done", ClearingFiles.OPEN, x -> x.window(1));
    }

    private static void refusedPosts() {
        refused("post(-1, 1)", ClearingFiles.BAD, x -> x.post(-1, 1));
        refused("post(3, 1)", ClearingFiles.BAD, x -> x.post(3, 1));
        refused("post(1, 0)", ClearingFiles.BAD, x -> x.post(1, 0));
        refused("post(1, -1)", ClearingFiles.BAD, x -> x.post(1, -1));
        refused("post(1, 41)", ClearingFiles.BAD, x -> x.post(1, 41));
        refused("post(1, least)", ClearingFiles.BAD, x -> x.post(1, Integer.MIN_VALUE));
        refused("post(1, greatest)", ClearingFiles.BAD, x -> x.post(1, Integer.MAX_VALUE));
    }

    private static void refusedQuestions() {
        refused("items(3)", ClearingFiles.BAD, x -> x.items(3));
        refused("item(1, 4, 0)", ClearingFiles.BAD, x -> x.item(1, 4, 0));
        refused("item(1, 0, 7)", ClearingFiles.BAD, x -> x.item(1, 0, 7));
        refused("control(1, 4)", ClearingFiles.BAD, x -> x.control(1, 4));
        refused("balance(0, IN_B)", ClearingFiles.BAD, x -> x.balance(0, House.IN_B));
        refused("ledger(3)", 0, x -> x.ledger(3));
        refused("rejected(34)", 0, x -> x.rejected(34));
        refused("waiting(1, 2)", ClearingFiles.BAD, x -> x.waiting(1, 2));
    }

    /** So that the other tests compare more than zeros. */
    private static void answersOfAllKinds() {
        ClearingFiles x = busy();
        Check.due("items(0)", x.items(0), 1);
        Check.due("items(1)", x.items(1), 4);
        Check.due("waiting(0, 0)", x.waiting(0, 0), 1);
        Check.due("waiting(0, 1)", x.waiting(0, 1), 1);
        Check.due("waiting(2, 0)", x.waiting(2, 0), 1);
        Check.due("item(1, 2, 6)", x.item(1, 2, 6), 1);
        Check.due("item(1, 3, 6)", x.item(1, 3, 6), 0);
        Check.due("the file under way ends well", rest(x).contains((long) ClearingFiles.ORDER), false);
    }

    private static void refusedWhenFull() {
        refused("join of a sixth", ClearingFiles.FULL, x -> x.join(7003), full(), full());
        refused("join of a sixth, not right", ClearingFiles.BAD, x -> x.join(7004), full(), full());
        refused("join of the fifth again", ClearingFiles.BAD, x -> x.join(5005), full(), full());
        refused("a thirteenth account", 0, x -> x.open(4, 26, 1) ? 1 : 0, full(), full());
    }
}
