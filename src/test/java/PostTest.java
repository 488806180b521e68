/** Promises 8 (post), 12 (balance, as items are posted) and 14 (rejected, of entries sent back). */
final class PostTest {
    public static void main(String[] args) {
        firstNotDone();
        wrongNumbers();
        reasonsToSendBack();
        theFirstReasonThatHolds();
        oneAfterTheOther();
        edgeOfTheBalance();
        asItIsWhenPosted();
        returnsAreNotPosted();
        beyondAnInt();
        Check.finish();
    }

    private static ClearingFiles withSix() {
        ClearingFiles x = House.ofThree();
        TestFile file = new TestFile(House.A, 1).batch(House.A, 1, 0);
        for (int trace = 1; trace <= 6; trace++) {
            file.entry(2, House.B, trace == 3 ? 0 : House.IN_B, 1, trace);
        }
        file.control().send(x);
        x.window(1);
        return x;
    }

    private static void firstNotDone() {
        ClearingFiles x = withSix();
        Check.due("post(1, 2)", x.post(1, 2), 2);
        Check.due("item 1", x.item(1, 1, 6), 1);
        Check.due("item 2", x.item(1, 2, 6), 0);
        Check.due("balance", x.balance(1, House.IN_B), 302);
        Check.due("post(1, 2)", x.post(1, 2), 1);
        Check.due("item 2", x.item(1, 2, 6), 2);
        Check.due("item 3", x.item(1, 3, 6), 1);
        Check.due("item 4", x.item(1, 4, 6), 0);
        Check.due("balance", x.balance(1, House.IN_B), 303);
        Check.due("post(1, 40)", x.post(1, 40), 2);
        Check.due("post(1, 40) of none", x.post(1, 40), 0);
        Check.due("balance", x.balance(1, House.IN_B), 305);
        Check.due("rejected(3)", x.rejected(3), 1);
    }

    private static void wrongNumbers() {
        ClearingFiles x = withSix();
        int[] wrong = {Integer.MIN_VALUE, -1, 0, 41, Integer.MAX_VALUE};
        for (int n : wrong) {
            Check.due("post(1, " + n + ")", x.post(1, n), ClearingFiles.BAD);
        }
        Check.due("post(3, 1)", x.post(3, 1), ClearingFiles.BAD);
        Check.due("post(-1, 1)", x.post(-1, 1), ClearingFiles.BAD);
        Check.due("none is done", x.item(1, 0, 6), 0);
        Check.due("post(1, 1)", x.post(1, 1), 1);
        Check.due("post of a bank without output", x.post(2, 1), 0);
    }

    private static void reasonsToSendBack() {
        ClearingFiles x = House.ofThree();
        x.open(1, 13, 10);
        x.shut(1, 13);
        x.open(2, 26, 10);
        TestFile file = new TestFile(House.C, 1).batch(House.A, 1, 0);
        file.entry(2, House.B, 170135, 1, 1).entry(7, House.B, 170135, 1, 2);
        file.entry(2, House.B, House.IN_C, 1, 3).entry(2, House.B, 0, 1, 4).entry(7, House.B, House.IN_A, 1, 5);
        file.entry(2, House.B, 13, 1, 6).entry(7, House.B, 13, 1, 7);
        file.entry(7, House.B, House.IN_B, 301, 8);
        file.entry(7, House.B, House.IN_B, 300, 9).entry(2, House.B, House.IN_B, 9999999, 10);
        Check.due("file", file.control().send(x), 10);
        Check.due("window(1)", x.window(1), 10);
        Check.due("nothing before post", x.rejected(4), 0);
        Check.due("post(1, 40)", x.post(1, 40), 2);
        Check.due("rejected(4)", x.rejected(4), 2);
        Check.due("rejected(3)", x.rejected(3), 3);
        Check.due("rejected(2)", x.rejected(2), 2);
        Check.due("rejected(1)", x.rejected(1), 1);
        Check.due("balance", x.balance(1, House.IN_B), 9999999);
        Check.due("balance of the shut one", x.balance(1, 13), 10);
        Check.due("balance at C", x.balance(2, House.IN_C), 1000);
        Check.due("waiting(0, 1)", x.waiting(0, 1), 8);
        Check.due("waiting(2, 1)", x.waiting(2, 1), 0);
        Check.due("window(0)", x.window(0), 8);
        int[] reasons = {4, 4, 3, 3, 3, 2, 2, 1};
        for (int k = 0; k < reasons.length; k++) {
            Check.due("reason of " + k, x.item(0, k, 5), reasons[k]);
            Check.due("trace of " + k, x.item(0, k, 4), k + 1);
        }
        Check.due("a return counts once", x.rejected(4), 2);
    }

    private static void theFirstReasonThatHolds() {
        ClearingFiles x = House.ofThree();
        x.open(1, 13, 10);
        x.shut(1, 13);
        new TestFile(House.A, 1).batch(House.A, 1, 0).entry(7, House.B, 1, 9, 1)
                .entry(7, House.B, 13, 11, 2).control().send(x);
        x.window(1);
        Check.due("post(1, 2)", x.post(1, 2), 0);
        Check.due("4 before 3", x.rejected(4), 1);
        Check.due("2 before 1", x.rejected(2), 1);
        Check.due("rejected(3)", x.rejected(3), 0);
        Check.due("rejected(1)", x.rejected(1), 0);
    }

    private static void oneAfterTheOther() {
        ClearingFiles x = House.ofThree();
        new TestFile(House.A, 1).batch(House.A, 1, 0).entry(7, House.B, House.IN_B, 301, 1)
                .entry(2, House.B, House.IN_B, 1, 2).entry(7, House.B, House.IN_B, 301, 3)
                .entry(7, House.B, House.IN_B, 1, 4).control().send(x);
        x.window(1);
        Check.due("post(1, 4)", x.post(1, 4), 2);
        Check.due("item 0", x.item(1, 0, 6), 2);
        Check.due("item 1", x.item(1, 1, 6), 1);
        Check.due("item 2", x.item(1, 2, 6), 1);
        Check.due("item 3", x.item(1, 3, 6), 2);
        Check.due("balance", x.balance(1, House.IN_B), 0);
    }

    private static void edgeOfTheBalance() {
        ClearingFiles x = House.ofThree();
        x.open(1, 0, 0);
        new TestFile(House.A, 1).batch(House.A, 1, 0).entry(7, House.B, House.IN_B, 299, 1)
                .entry(7, House.B, House.IN_B, 2, 2).entry(7, House.B, House.IN_B, 1, 3)
                .entry(7, House.B, 0, 1, 4).control().send(x);
        x.window(1);
        Check.due("post(1, 4)", x.post(1, 4), 2);
        Check.due("rejected(1)", x.rejected(1), 2);
        Check.due("balance", x.balance(1, House.IN_B), 0);
    }

    /** Neither the file's end nor the window looks at the accounts. */
    private static void asItIsWhenPosted() {
        ClearingFiles x = House.ofThree();
        new TestFile(House.A, 1).batch(House.A, 1, 0).entry(2, House.B, 13, 5, 1)
                .entry(2, House.B, House.IN_B, 5, 2).control().send(x);
        x.window(1);
        x.open(1, 13, 7);
        x.shut(1, House.IN_B);
        Check.due("post(1, 2)", x.post(1, 2), 1);
        Check.due("balance", x.balance(1, 13), 12);
        Check.due("rejected(2)", x.rejected(2), 1);
    }

    private static void returnsAreNotPosted() {
        ClearingFiles x = House.ofThree();
        new TestFile(House.A, 1).batch(House.A, 1, 0).entry(2, House.B, House.IN_A, 5, 1)
                .entry(2, House.B, House.IN_A, 6, 2).control()
                .batch(House.B, 2, 0).entry(2, House.A, House.IN_A, 7, 1).control().send(x);
        x.window(1);
        x.post(1, 2);
        Check.due("window(0)", x.window(0), 3);
        Check.due("post(0, 2)", x.post(0, 2), 0);
        Check.due("taken", x.item(0, 1, 6), 1);
        Check.due("balance", x.balance(0, House.IN_A), 500);
        Check.due("post(0, 2)", x.post(0, 2), 1);
        Check.due("balance", x.balance(0, House.IN_A), 507);
    }

    private static void beyondAnInt() {
        ClearingFiles x = House.ofThree();
        long want = 300;
        for (int number = 1; number <= 16; number++) {
            TestFile file = new TestFile(House.A, number).batch(House.A, 1, 0);
            for (int trace = 1; trace <= 20; trace++) {
                file.entry(2, House.B, House.IN_B, 9999999, trace);
                want += 9999999;
            }
            file.control().send(x);
            x.window(1);
            Check.due("post(1, 20)", x.post(1, 20), 20);
        }
        Check.due("balance", x.balance(1, House.IN_B), want);
        Check.due("ledger(0)", x.ledger(0), 300 - want);
        Check.due("ledger(1)", x.ledger(1), want - 300);
    }
}
