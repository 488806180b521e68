/** Promise 14 (rejected, of batches and entries): reasons 20 to 24 and 30 to 33. */
final class BatchReasonsTest {
    public static void main(String[] args) {
        originatorUnknown();
        numberNotGreater();
        dayPast();
        controlWrong();
        traceNotGreater();
        theFirstThatHolds();
        entryReasons();
        entriesOfRejectedBatches();
        whenTheFileHasEnded();
        otherNumbers();
        Check.finish();
    }

    private static void due(ClearingFiles x, int reason, int times) {
        Check.due("rejected(" + reason + ")", x.rejected(reason), times);
    }

    private static TestFile good(TestFile file, int originator, int number, int day) {
        return file.batch(originator, number, day).entry(2, House.B, 0, 1, 1).control();
    }

    private static void originatorUnknown() {
        ClearingFiles x = House.ofThree();
        TestFile file = new TestFile(House.A, 1);
        good(file, 2268, 1, 0);
        good(file, 1001, 2, 0);
        good(file, House.C, 3, 0);
        Check.due("one of three", file.send(x), 1);
        due(x, 20, 2);
    }

    private static void numberNotGreater() {
        ClearingFiles x = House.ofThree();
        TestFile file = new TestFile(House.A, 1);
        good(file, House.A, 0, 0);
        good(file, House.B, 0, 0);
        good(file, House.A, 5, 0);
        good(file, House.C, 5, 0);
        Check.due("the first may be 0", file.send(x), 2);
        due(x, 21, 2);
        file = new TestFile(House.A, 2);
        good(file, House.A, 5, 0);
        good(file, House.A, 3, 0);
        good(file, House.A, 4, 0);
        Check.due("4 is greater than the rejected 3 before it", file.send(x), 2);
        due(x, 21, 3);
        file = new TestFile(House.A, 3);
        good(file, 1, 9, 0);
        good(file, House.A, 8, 0);
        Check.due("8 is less than the rejected 9 before it", file.send(x), 0);
        due(x, 20, 1);
        due(x, 21, 4);
        file = new TestFile(House.A, 5);
        good(file, House.A, 1000, 0);
        good(file, House.A, 999, 0);
        Check.due("all four digits count", file.send(x), 1);
        due(x, 21, 5);
        Records.put(x, Records.header(House.A, 6));
        x.put(510090005000000000L, 0);
        x.put(800000000000000000L, 0);
        x.put(510090005900099999L, 0);
        x.put(800000000000000000L, 0);
        Check.due("and no other", x.put(900020000000000000L, 0), 0);
        due(x, 21, 6);
        Check.due("numbers begin anew in each file", good(new TestFile(House.A, 4), House.A, 1, 0).send(x), 1);
    }

    private static void dayPast() {
        ClearingFiles x = House.ofThree();
        x.day();
        x.day();
        TestFile file = new TestFile(House.A, 1);
        good(file, House.A, 1, 1);
        good(file, House.A, 2, 2);
        good(file, House.A, 3, 3);
        good(file, House.A, 4, 9000);
        Check.due("all but the first", file.send(x), 3);
        due(x, 22, 1);
    }

    private static void controlWrong() {
        ClearingFiles x = House.ofThree();
        int rejected = 0;
        for (int index = 0; index < 4; index++) {
            for (int by = -1; by <= 1; by += 2) {
                TestFile file = new TestFile(House.A, rejected);
                file.batch(House.A, 1, 0).entry(2, House.B, 0, 5, 1).entry(7, House.B, 0, 6, 2);
                file.wrongControl(index, by);
                good(file, House.A, 2, 0);
                Check.due("number " + index + " off by " + by, file.send(x), 1);
                rejected++;
                due(x, 23, rejected);
            }
        }
        int[] first = {1000, 100000, 100000000, 100000000};
        for (int index = 0; index < 4; index++) {
            TestFile file = new TestFile(House.C, index).batch(House.A, 1, 0).entry(2, House.B, 0, 5, 1);
            Check.due("first digit of " + index, file.wrongControl(index, first[index]).send(x), 0);
            rejected++;
            due(x, 23, rejected);
        }
        TestFile file = new TestFile(House.B, 1).batch(House.A, 1, 0);
        file.entry(4, House.B, 0, 5, 1).entry(2, 9999, 0, 9999999, 2).entry(2, 1634, 0, 9999999, 3).control();
        Check.due("rejected entries are counted", file.send(x), 1);
        due(x, 23, rejected);
        Check.due("an empty batch", new TestFile(House.B, 2).batch(House.A, 1, 0).control().send(x), 0);
        Check.due("said not to be empty", new TestFile(House.B, 3).batch(House.A, 1, 0)
                .wrongControl(2, 1).send(x), 0);
        due(x, 23, rejected + 1);
    }

    private static void traceNotGreater() {
        ClearingFiles x = House.ofThree();
        TestFile file = new TestFile(House.A, 1);
        file.batch(House.A, 1, 0).entry(2, House.B, 0, 1, 0).entry(2, House.B, 0, 1, 1).control();
        file.batch(House.A, 2, 0).entry(2, House.B, 0, 1, 4).entry(2, House.B, 0, 1, 4).control();
        file.batch(House.A, 3, 0).entry(2, House.B, 0, 1, 4).entry(2, House.B, 0, 1, 3)
                .entry(2, House.B, 0, 1, 5).control();
        file.batch(House.A, 4, 0).entry(2, House.B, 0, 1, 0).entry(2, House.B, 0, 1, 9999999).control();
        Check.due("the first and the last", file.send(x), 4);
        due(x, 24, 2);
        file = new TestFile(House.A, 2);
        file.batch(House.A, 1, 0).entry(2, 1, 0, 1, 4).entry(2, House.B, 0, 1, 4).control();
        Check.due("the one before may be a bad one", file.send(x), 0);
        due(x, 24, 3);
        due(x, 30, 0);
    }

    private static void theFirstThatHolds() {
        ClearingFiles x = House.ofThree();
        x.day();
        TestFile file = new TestFile(House.A, 1);
        good(file, House.A, 5, 1);
        file.batch(1, 5, 0).entry(2, House.B, 0, 1, 2).entry(2, House.B, 0, 1, 1).wrongControl(0, 1);
        file.batch(House.A, 5, 0).entry(2, House.B, 0, 1, 2).entry(2, House.B, 0, 1, 1).wrongControl(0, 1);
        file.batch(House.A, 6, 0).entry(2, House.B, 0, 1, 2).entry(2, House.B, 0, 1, 1).wrongControl(0, 1);
        Check.due("one", file.send(x), 1);
        due(x, 20, 1);
        due(x, 21, 1);
        due(x, 22, 1);
        due(x, 23, 0);
        due(x, 24, 0);
        file = new TestFile(House.A, 2).batch(House.A, 7, 1);
        file.entry(2, House.B, 0, 1, 2).entry(2, House.B, 0, 1, 1).wrongControl(0, 1);
        Check.due("none", file.send(x), 0);
        due(x, 23, 1);
        due(x, 24, 0);
    }

    private static void entryReasons() {
        ClearingFiles x = House.ofThree();
        TestFile file = new TestFile(House.A, 1).batch(House.A, 1, 0);
        file.entry(4, 2267, 0, 0, 1).entry(2, 1, 0, 1, 2);
        file.entry(4, 2268, 0, 0, 3).entry(7, 0, 0, 1, 4).entry(7, 2268, 0, 1, 5);
        file.entry(0, House.B, 0, 0, 6).entry(3, House.B, 0, 1, 7).entry(6, House.B, 0, 1, 8)
                .entry(8, House.B, 0, 1, 9).entry(1, House.B, 0, 1, 10);
        file.entry(2, House.B, 0, 0, 11).entry(7, House.B, 0, 0, 12);
        file.entry(2, House.B, 0, 1, 13).entry(7, House.A, 1, 9999999, 14);
        Check.due("two", file.control().send(x), 2);
        due(x, 30, 2);
        due(x, 31, 3);
        due(x, 32, 5);
        due(x, 33, 2);
        Check.due("waiting(0, 0)", x.waiting(0, 0), 1);
        Check.due("waiting(1, 0)", x.waiting(1, 0), 1);
    }

    private static void entriesOfRejectedBatches() {
        ClearingFiles x = House.ofThree();
        TestFile file = new TestFile(House.A, 1);
        file.batch(1, 1, 0).entry(4, 1, 0, 0, 1).entry(2, House.B, 0, 1, 2).control();
        file.batch(House.A, 2, 0).entry(4, 1, 0, 0, 1).entry(2, House.B, 0, 1, 2).wrongControl(3, 1);
        Check.due("none", file.send(x), 0);
        for (int reason = 30; reason <= 33; reason++) {
            due(x, reason, 0);
        }
        Check.due("waiting(1, 0)", x.waiting(1, 0), 0);
    }

    private static void whenTheFileHasEnded() {
        ClearingFiles x = House.ofThree();
        // Banks that join and days that pass before the file control count.
        Records.put(x, Records.header(House.A, 1));
        Records.put(x, Records.batch(2268, 1, 1));
        Records.put(x, Records.entry(2, 5005, 0, 1, 1));
        Records.put(x, Records.batchControl(1, 5005, 0, 1));
        Records.put(x, Records.batch(House.A, 2, 0));
        Records.put(x, Records.entry(2, House.A, 0, 1, 1));
        Records.put(x, Records.batchControl(1, House.A, 0, 1));
        x.join(2268);
        x.join(5005);
        x.day();
        Check.due("the first only", Records.put(x, Records.fileControl(2, 2, 5005 + House.A, 0, 2)), 1);
        due(x, 22, 1);
        Check.due("waiting(4, 0)", x.waiting(4, 0), 1);
    }

    private static void otherNumbers() {
        ClearingFiles x = House.ofThree();
        new TestFile(House.A, 1).batch(1, 1, 0).control().send(x);
        int[] others = {Integer.MIN_VALUE, -20, -1, 0, 5, 9, 14, 19, 25, 29, 34, 40, 120, Integer.MAX_VALUE};
        for (int other : others) {
            due(x, other, 0);
        }
    }
}
