/** Promises 7 (window), 9 (items), 10 (item), 11 (control), 13 (ledger) and 15 (waiting). */
final class WindowTest {
    public static void main(String[] args) {
        emptyOutputs();
        refusals();
        orderOfEntries();
        laterDaysWaitOn();
        openWhileNotDone();
        itemsOfAnOutput();
        returnsComeFirst();
        ledgerOfEntriesAndReturns();
        controlOfAnOutput();
        toItself();
        manyReturns();
        Check.finish();
    }

    private static void emptyOutputs() {
        ClearingFiles x = House.ofThree();
        Check.due("items(0)", x.items(0), 0);
        for (int which = 0; which <= 3; which++) {
            Check.due("control(0, " + which + ")", x.control(0, which), 0);
        }
        Check.due("window(0)", x.window(0), 0);
        Check.due("window(0) again", x.window(0), 0);
        Check.due("items(0)", x.items(0), 0);
        Check.due("item(0, 0, 0)", x.item(0, 0, 0), ClearingFiles.BAD);
        Check.due("post(0, 1)", x.post(0, 1), 0);
        Check.due("waiting(0, 0)", x.waiting(0, 0), 0);
        Check.due("waiting(0, 1)", x.waiting(0, 1), 0);
        Check.due("ledger(0)", x.ledger(0), 0);
    }

    private static void refusals() {
        ClearingFiles x = House.ofThree();
        new TestFile(House.A, 1).batch(House.A, 1, 0).entry(2, House.B, House.IN_B, 5, 1).control().send(x);
        x.window(1);
        int[] noBanks = {-1, 3, 5, Integer.MIN_VALUE, Integer.MAX_VALUE};
        for (int bank : noBanks) {
            Check.due("window(" + bank + ")", x.window(bank), ClearingFiles.BAD);
            Check.due("items(" + bank + ")", x.items(bank), ClearingFiles.BAD);
            Check.due("item(" + bank + ", 0, 0)", x.item(bank, 0, 0), ClearingFiles.BAD);
            Check.due("control(" + bank + ", 0)", x.control(bank, 0), ClearingFiles.BAD);
            Check.due("waiting(" + bank + ", 0)", x.waiting(bank, 0), ClearingFiles.BAD);
            Check.due("post(" + bank + ", 1)", x.post(bank, 1), ClearingFiles.BAD);
            Check.due("ledger(" + bank + ")", x.ledger(bank), 0);
        }
        int[] noItems = {-1, 1, 40, Integer.MIN_VALUE, Integer.MAX_VALUE};
        for (int k : noItems) {
            Check.due("item(1, " + k + ", 0)", x.item(1, k, 0), ClearingFiles.BAD);
        }
        int[] noWhich = {-1, 7, Integer.MIN_VALUE, Integer.MAX_VALUE};
        for (int which : noWhich) {
            Check.due("item(1, 0, " + which + ")", x.item(1, 0, which), ClearingFiles.BAD);
            Check.due("control(1, " + which + ")", x.control(1, which), ClearingFiles.BAD);
            Check.due("waiting(1, " + which + ")", x.waiting(1, which), ClearingFiles.BAD);
        }
        Check.due("control(1, 4)", x.control(1, 4), ClearingFiles.BAD);
        Check.due("waiting(1, 2)", x.waiting(1, 2), ClearingFiles.BAD);
    }

    private static void amounts(ClearingFiles x, int bank, int... amounts) {
        Check.due("items(" + bank + ")", x.items(bank), amounts.length);
        for (int k = 0; k < amounts.length; k++) {
            Check.due("item(" + bank + ", " + k + ", 3)", x.item(bank, k, 3), amounts[k]);
        }
    }

    private static void orderOfEntries() {
        ClearingFiles x = new ClearingFiles();
        // The first bank has the greatest routing: it is the bank's number that counts.
        x.join(5005);
        x.join(1009);
        x.join(1328);
        TestFile file = new TestFile(1009, 1);
        file.batch(1328, 1, 2).entry(2, 1009, 0, 31, 1).entry(2, 1009, 0, 32, 2).control();
        file.batch(1009, 2, 1).entry(2, 1009, 0, 21, 9).entry(7, 1009, 0, 22, 10).control();
        file.batch(5005, 3, 1).entry(2, 1009, 0, 11, 1).entry(2, 1328, 0, 99, 2).control();
        file.batch(1328, 4, 1).entry(2, 1009, 0, 24, 1).control();
        Check.due("the first file", file.send(x), 7);
        file = new TestFile(5005, 1);
        file.batch(1328, 1, 2).entry(2, 1009, 0, 33, 1).control();
        file.batch(1009, 2, 0).entry(2, 1009, 0, 1, 1).control();
        file.batch(1009, 3, 1).entry(2, 1009, 0, 23, 1).entry(2, 1009, 0, 20, 2).control();
        file.batch(5005, 4, 2).entry(2, 1009, 0, 30, 1).control();
        Check.due("the second file", file.send(x), 5);
        x.day();
        x.day();
        Check.due("window(1)", x.window(1), 11);
        amounts(x, 1, 1, 11, 21, 22, 23, 20, 24, 30, 31, 32, 33);
        Check.due("waiting(1, 0)", x.waiting(1, 0), 0);
        Check.due("waiting(2, 0)", x.waiting(2, 0), 1);
    }

    private static void laterDaysWaitOn() {
        ClearingFiles x = House.ofThree();
        TestFile file = new TestFile(House.A, 1);
        file.batch(House.A, 1, 2).entry(2, House.B, House.IN_B, 20, 1).control();
        file.batch(House.A, 2, 0).entry(2, House.B, House.IN_B, 1, 1).control();
        file.batch(House.A, 3, 1).entry(2, House.B, House.IN_B, 10, 1).control();
        Check.due("file", file.send(x), 3);
        Check.due("waiting(1, 0)", x.waiting(1, 0), 3);
        Check.due("window(1)", x.window(1), 1);
        amounts(x, 1, 1);
        Check.due("waiting(1, 0)", x.waiting(1, 0), 2);
        x.post(1, 1);
        Check.due("window(1) on the same day", x.window(1), 0);
        Check.due("items(1)", x.items(1), 0);
        Check.due("waiting(1, 0)", x.waiting(1, 0), 2);
        x.day();
        Check.due("window(1) a day later", x.window(1), 1);
        amounts(x, 1, 10);
        x.post(1, 1);
        x.day();
        x.day();
        Check.due("window(1) after its day", x.window(1), 1);
        amounts(x, 1, 20);
        Check.due("waiting(1, 0)", x.waiting(1, 0), 0);
    }

    private static void openWhileNotDone() {
        ClearingFiles x = House.ofThree();
        new TestFile(House.A, 1).batch(House.A, 1, 0).entry(2, House.B, House.IN_B, 5, 1)
                .entry(2, House.B, House.IN_B, 6, 2).entry(2, House.C, House.IN_C, 7, 3).control().send(x);
        Check.due("window(1)", x.window(1), 2);
        new TestFile(House.A, 2).batch(House.A, 1, 0).entry(2, House.B, House.IN_B, 8, 1).control().send(x);
        Check.due("none is done", x.window(1), ClearingFiles.OPEN);
        x.post(1, 1);
        Check.due("one is done", x.window(1), ClearingFiles.OPEN);
        amounts(x, 1, 5, 6);
        Check.due("it changed nothing: done", x.item(1, 0, 6), 1);
        Check.due("it changed nothing: not done", x.item(1, 1, 6), 0);
        Check.due("it changed nothing: waiting", x.waiting(1, 0), 1);
        Check.due("it changed nothing: ledger", x.ledger(1), 11);
        Check.due("another bank's window", x.window(2), 1);
        x.post(1, 1);
        Check.due("all are done", x.window(1), 1);
        amounts(x, 1, 8);
        Check.due("not done at first", x.item(1, 0, 6), 0);
        Check.due("ledger(1)", x.ledger(1), 19);
    }

    private static void item(ClearingFiles x, int bank, int k, int... due) {
        for (int which = 0; which < due.length; which++) {
            Check.due("item(" + bank + ", " + k + ", " + which + ")", x.item(bank, k, which), due[which]);
        }
    }

    private static void itemsOfAnOutput() {
        ClearingFiles x = House.ofThree();
        new TestFile(House.A, 1).batch(House.C, 1, 0).entry(7, House.B, House.IN_B, 301, 44)
                .entry(2, House.B, House.IN_B, 9999999, 9999999).entry(2, House.B, 999999, 1, 9999999)
                .control().send(x);
        Check.due("a trace like the one before", x.rejected(24), 1);
        new TestFile(House.A, 2).batch(House.C, 1, 0).entry(7, House.B, House.IN_B, 301, 44)
                .entry(2, House.B, 999999, 1, 45).entry(2, House.B, House.IN_B, 9999999, 9999999).control().send(x);
        Check.due("window(1)", x.window(1), 3);
        item(x, 1, 0, 7, 2, House.IN_B, 301, 44, 0, 0);
        item(x, 1, 1, 2, 2, 999999, 1, 45, 0, 0);
        item(x, 1, 2, 2, 2, House.IN_B, 9999999, 9999999, 0, 0);
        Check.due("post(1, 3)", x.post(1, 3), 1);
        item(x, 1, 0, 7, 2, House.IN_B, 301, 44, 0, 2);
        item(x, 1, 1, 2, 2, 999999, 1, 45, 0, 2);
        item(x, 1, 2, 2, 2, House.IN_B, 9999999, 9999999, 0, 1);
        Check.due("window(2)", x.window(2), 2);
        item(x, 2, 0, 7, 1, House.IN_B, 301, 44, 1, 0);
        item(x, 2, 1, 2, 1, 999999, 1, 45, 4, 0);
        Check.due("post(2, 1)", x.post(2, 1), 0);
        item(x, 2, 0, 7, 1, House.IN_B, 301, 44, 1, 1);
        item(x, 2, 1, 2, 1, 999999, 1, 45, 4, 0);
        item(x, 1, 0, 7, 2, House.IN_B, 301, 44, 0, 2);
        Check.due("window(1)", x.window(1), 0);
        Check.due("the output before is gone", x.item(1, 0, 0), ClearingFiles.BAD);
    }

    private static void returnsComeFirst() {
        ClearingFiles x = House.ofThree();
        x.day();
        // Made in the order in which B posts, then C; not by day, originator or coming.
        TestFile file = new TestFile(House.A, 1);
        file.batch(House.A, 1, 2).entry(2, House.B, 0, 1, 1).entry(2, House.C, 0, 2, 2).control();
        file.batch(House.A, 2, 1).entry(2, House.B, 0, 3, 1).entry(2, House.C, 0, 4, 2).control();
        file.batch(House.B, 3, 1).entry(2, House.A, 0, 5, 1).entry(2, House.C, 0, 6, 2).control();
        Check.due("file", file.send(x), 6);
        x.window(2);
        Check.due("C sends two back", x.post(2, 40), 0);
        x.day();
        Check.due("waiting(1, 1)", x.waiting(1, 1), 1);
        Check.due("window(1)", x.window(1), 3);
        amounts(x, 1, 6, 3, 1);
        x.post(1, 40);
        x.window(2);
        x.post(2, 40);
        Check.due("waiting(0, 1)", x.waiting(0, 1), 4);
        Check.due("waiting(1, 1)", x.waiting(1, 1), 0);
        Check.due("waiting(0, 0)", x.waiting(0, 0), 1);
        Check.due("window(0)", x.window(0), 5);
        amounts(x, 0, 4, 3, 1, 2, 5);
        item(x, 0, 0, 2, 2, 0, 4, 2, 3, 0);
        item(x, 0, 1, 2, 1, 0, 3, 1, 3, 0);
        item(x, 0, 4, 2, 1, 0, 5, 1, 0, 0);
        Check.due("waiting(0, 1)", x.waiting(0, 1), 0);
        Check.due("waiting(0, 0)", x.waiting(0, 0), 0);
        Check.due("post(0, 40)", x.post(0, 40), 0);
        // The output after one with returns begins anew.
        new TestFile(House.C, 2).batch(House.B, 1, 2).entry(2, House.A, House.IN_A, 7, 1).control().send(x);
        Check.due("window(0)", x.window(0), 1);
        item(x, 0, 0, 2, 1, House.IN_A, 7, 1, 0, 0);
        Check.due("post(0, 40)", x.post(0, 40), 1);
    }

    private static void ledger(ClearingFiles x, long a, long b, long c) {
        Check.due("ledger(0)", x.ledger(0), a);
        Check.due("ledger(1)", x.ledger(1), b);
        Check.due("ledger(2)", x.ledger(2), c);
    }

    private static void ledgerOfEntriesAndReturns() {
        ClearingFiles x = House.ofThree();
        TestFile file = new TestFile(House.C, 1);
        file.batch(House.A, 1, 0).entry(2, House.B, 0, 100, 1).entry(7, House.C, 0, 1000, 2).control();
        file.batch(House.B, 2, 0).entry(7, House.A, House.IN_A, 3, 1).entry(2, House.C, 0, 20, 2).control();
        file.send(x);
        ledger(x, 0, 0, 0);
        x.window(1);
        ledger(x, -100, 100, 0);
        x.post(1, 1);
        ledger(x, -100, 100, 0);
        x.window(2);
        ledger(x, 900, 80, -980);
        x.post(2, 2);
        ledger(x, 900, 80, -980);
        // A's debit on its own account at A, and A's two returns: the credit first, then the debit.
        x.window(0);
        ledger(x, 900 - 3 + 100 - 1000, 80 + 3 - 100, -980 + 1000);
        x.post(0, 3);
        x.window(1);
        ledger(x, -3, 3, 0);
    }

    private static void control(ClearingFiles x, int bank, long... due) {
        for (int which = 0; which < due.length; which++) {
            Check.due("control(" + bank + ", " + which + ")", x.control(bank, which), due[which]);
        }
    }

    private static void controlOfAnOutput() {
        ClearingFiles x = House.ofThree();
        TestFile file = new TestFile(House.C, 1);
        file.batch(House.A, 1, 0).entry(2, House.B, 0, 100, 1).entry(7, House.C, 0, 1000, 2).control();
        file.batch(House.B, 2, 0).entry(7, House.A, 0, 3, 1).entry(2, House.A, 0, 20, 2).control();
        file.batch(House.B, 3, 1).entry(2, House.A, 0, 20, 2).control();
        file.send(x);
        control(x, 0, 0, 0, 0, 0);
        x.window(1);
        control(x, 1, 1, House.B, 0, 100);
        x.post(1, 1);
        control(x, 1, 1, House.B, 0, 100);
        x.window(2);
        x.post(2, 1);
        Check.due("window(0)", x.window(0), 4);
        control(x, 0, 4, House.B + House.C + 2 * House.A, 1003, 120);
        x.post(0, 4);
        x.window(0);
        control(x, 0, 0, 0, 0, 0);
    }

    /** A bank may be originator and receiver at once. */
    private static void toItself() {
        ClearingFiles x = House.ofThree();
        TestFile file = new TestFile(House.A, 1);
        file.batch(House.A, 1, 0).entry(2, House.A, 0, 100, 1).entry(7, House.A, House.IN_A, 50, 2).control();
        Check.due("file", file.send(x), 2);
        Check.due("window(0)", x.window(0), 2);
        ledger(x, 0, 0, 0);
        Check.due("post(0, 40)", x.post(0, 40), 1);
        Check.due("waiting(0, 1)", x.waiting(0, 1), 1);
        Check.due("items(0)", x.items(0), 2);
        Check.due("window(0)", x.window(0), 1);
        item(x, 0, 0, 2, 0, 0, 100, 1, 3, 0);
        ledger(x, 0, 0, 0);
        Check.due("post(0, 40)", x.post(0, 40), 0);
        item(x, 0, 0, 2, 0, 0, 100, 1, 3, 1);
        Check.due("a return is not sent back again", x.waiting(0, 1), 0);
    }

    /** Returns have no bound of their own: an output may be longer than post() does at once, its sums beyond an int. */
    private static void manyReturns() {
        ClearingFiles x = House.ofThree();
        int sent = 0;
        for (int number = 1; number <= 17; number++) {
            TestFile file = new TestFile(House.A, number).batch(House.A, 1, 0);
            for (int trace = 1; trace <= 20; trace++) {
                file.entry(number % 2 == 0 ? 2 : 7, House.B, 1, 9999999, trace);
                sent++;
            }
            Check.due("file " + number, file.control().send(x), 20);
            Check.due("window(1)", x.window(1), 20);
            Check.due("post(1, 20)", x.post(1, 20), 0);
        }
        Check.due("waiting(0, 1)", x.waiting(0, 1), sent);
        Check.due("window(0)", x.window(0), sent);
        control(x, 0, sent, (long) sent * House.B, 9L * 20 * 9999999, 8L * 20 * 9999999);
        Check.due("the last item", x.item(0, sent - 1, 4), 20);
        for (int done = 0; done < sent; done += 40) {
            Check.due("window(0)", x.window(0), ClearingFiles.OPEN);
            Check.due("post(0, 40)", x.post(0, 40), 0);
        }
        Check.due("all are taken", x.item(0, sent - 1, 6), 1);
        Check.due("window(0)", x.window(0), 0);
    }
}
