/** Promises 6 (put of a file control) and 14 (rejected, of files): reasons 10 to 13. */
final class FileReasonsTest {
    public static void main(String[] args) {
        senderUnknown();
        fileAgain();
        controlWrong();
        tooManyWaiting();
        whatIsNotCountedForThirteen();
        theFirstThatHolds();
        rejectedCountsForNothing();
        acceptedAnswersHowMany();
        manyFiles();
        Check.finish();
    }

    private static TestFile one(int sender, int number) {
        return new TestFile(sender, number).batch(House.A, 1, 0).entry(2, House.B, House.IN_B, 5, 1).control();
    }

    private static TestFile of(int entries, int number, int day) {
        TestFile file = new TestFile(House.A, number).batch(House.A, 1, day);
        for (int trace = 1; trace <= entries; trace++) {
            file.entry(2, House.B, House.IN_B, 1, trace);
        }
        return file.control();
    }

    private static void senderUnknown() {
        ClearingFiles x = House.ofThree();
        Check.due("sender 2268", one(2268, 1).send(x), -10);
        Check.due("sender not right", one(1000, 1).send(x), -10);
        Check.due("rejected(10)", x.rejected(10), 2);
        // It is the end of the file that counts.
        Records.put(x, Records.header(2268, 1));
        x.join(2268);
        Check.due("joined meanwhile", Records.put(x, Records.fileControl(0, 0, 0, 0, 0)), 0);
        Check.due("rejected(10)", x.rejected(10), 2);
    }

    private static void fileAgain() {
        ClearingFiles x = House.ofThree();
        Check.due("file 7 of A", one(House.A, 7).send(x), 1);
        Check.due("file 7 of A again", one(House.A, 7).send(x), -11);
        Check.due("file 7 of B", one(House.B, 7).send(x), 1);
        Check.due("file 6 of A", one(House.A, 6).send(x), 1);
        Check.due("file 0 of A", one(House.A, 0).send(x), 1);
        Check.due("file 9999 of A", one(House.A, 9999).send(x), 1);
        Check.due("file 0 of A again", one(House.A, 0).send(x), -11);
        Check.due("file 9999 of A again", one(House.A, 9999).send(x), -11);
        Check.due("file 9999 of B", one(House.B, 9999).send(x), 1);
        Check.due("rejected(11)", x.rejected(11), 3);
        Check.due("waiting(1, 0)", x.waiting(1, 0), 6);
        Check.due("file 9007 of A", one(House.A, 9007).send(x), 1);
        Check.due("header of file 7 of A with zeros behind", x.put(110090007000000000L, 0), 0);
        Check.due("again", x.put(900000000000000000L, 0), -11);
        x.join(0);
        Check.due("file 0 of 0000", one(0, 0).send(x), 1);
        Check.due("file 0 of 0000 again", one(0, 0).send(x), -11);
    }

    private static void controlWrong() {
        ClearingFiles x = House.ofThree();
        int rejected = 0;
        for (int index = 0; index < 5; index++) {
            for (int by = -1; by <= 1; by += 2) {
                TestFile file = new TestFile(House.A, 1).batch(House.A, 1, 0);
                file.entry(2, House.B, 0, 5, 1).entry(7, House.B, 0, 6, 2).control();
                Check.due("number " + index + " off by " + by, file.sendWrong(x, index, by), -12);
                rejected++;
                Check.due("rejected(12)", x.rejected(12), rejected);
            }
        }
        int[] first = {1000, 1000, 100000, 100000000, 100000000};
        for (int index = 0; index < 5; index++) {
            Check.due("first digit of " + index, one(House.A, 1).sendWrong(x, index, first[index]), -12);
        }
        Check.due("waiting(1, 0)", x.waiting(1, 0), 0);
        // What is rejected for itself is counted, too; a code that is neither is in neither sum.
        TestFile file = new TestFile(House.A, 1);
        file.batch(1, 1, 0).entry(2, 1, 0, 5, 1).entry(7, 9999, 1, 6, 1).wrongControl(0, 1);
        file.batch(House.A, 2, 0).entry(3, House.B, 0, 9999999, 1).entry(2, House.C, 0, 9999999, 2).control();
        Check.due("with rejected batches and entries", file.send(x), 1);
        Check.due("rejected(20)", x.rejected(20), 1);
        Check.due("rejected(32)", x.rejected(32), 1);
        Check.due("no batch at all", new TestFile(House.A, 2).send(x), 0);
        Check.due("no batch, said to be one", new TestFile(House.A, 3).sendWrong(x, 0, 1), -12);
    }

    private static void tooManyWaiting() {
        ClearingFiles x = House.ofThree();
        Check.due("twenty", of(20, 1, 0).send(x), 20);
        Check.due("nineteen, for another day", of(19, 2, 3).send(x), 19);
        TestFile two = new TestFile(House.B, 1).batch(House.B, 1, 0)
                .entry(2, House.A, 0, 1, 1).entry(2, House.C, 0, 1, 2).control();
        Check.due("two more", two.send(x), -13);
        Check.due("two more again", two.send(x), -13);
        Check.due("rejected(13)", x.rejected(13), 2);
        Check.due("one more", of(1, 3, 0).send(x), 1);
        Check.due("yet one more", of(1, 4, 0).send(x), -13);
        Check.due("none more", of(0, 5, 0).send(x), 0);
        Check.due("window(1)", x.window(1), 21);
        // What was handed out waits no more, though it is not done; 19 wait on.
        Check.due("twenty", of(20, 4, 0).send(x), 20);
        Check.due("two", two.send(x), -13);
    }

    private static void whatIsNotCountedForThirteen() {
        ClearingFiles x = House.ofThree();
        of(20, 1, 0).send(x);
        of(19, 2, 0).send(x);
        TestFile mixed = new TestFile(House.B, 1);
        mixed.batch(House.B, 1, 0).entry(2, House.A, 0, 0, 1).entry(2, House.A, 0, 1, 2)
                .entry(4, House.A, 0, 1, 3).control();
        mixed.batch(House.B, 1, 0).entry(2, House.A, 0, 1, 1).control();
        Check.due("one good entry among bad ones", mixed.send(x), 1);
        Check.due("rejected(33)", x.rejected(33), 1);
        Check.due("rejected(32)", x.rejected(32), 1);
        Check.due("rejected(21)", x.rejected(21), 1);
        x.window(1);
        x.shut(1, House.IN_B);
        x.post(1, 40);
        Check.due("returns", x.waiting(0, 1), 39);
        Check.due("returns do not count", of(20, 3, 0).send(x), 20);
        Check.due("nor now", of(19, 4, 0).send(x), 19);
        Check.due("but entries do", of(1, 5, 0).send(x), -13);
    }

    private static void theFirstThatHolds() {
        ClearingFiles x = House.ofThree();
        of(20, 1, 0).send(x);
        of(20, 2, 0).send(x);
        Check.due("10 before 12", new TestFile(1000, 1).sendWrong(x, 0, 1), -10);
        Check.due("11 before 12", new TestFile(House.A, 1).sendWrong(x, 0, 1), -11);
        Check.due("11 before 13", one(House.A, 1).send(x), -11);
        Check.due("12 before 13", one(House.A, 3).sendWrong(x, 4, 1), -12);
        Check.due("13", one(House.A, 3).send(x), -13);
        Check.due("10 before 13", one(1000, 3).send(x), -10);
    }

    private static void rejectedCountsForNothing() {
        ClearingFiles x = House.ofThree();
        TestFile file = new TestFile(House.A, 1);
        file.batch(1, 1, 0).control();
        file.batch(House.A, 2, 0).entry(2, House.B, 0, 0, 1).entry(2, House.B, 0, 1, 2).control();
        Check.due("wrong", file.sendWrong(x, 1, 1), -12);
        Check.due("rejected(20)", x.rejected(20), 0);
        Check.due("rejected(33)", x.rejected(33), 0);
        Check.due("waiting(1, 0)", x.waiting(1, 0), 0);
        Check.due("its number is free", file.send(x), 1);
        Check.due("rejected(20)", x.rejected(20), 1);
        Check.due("rejected(33)", x.rejected(33), 1);
        Check.due("waiting(1, 0)", x.waiting(1, 0), 1);
        of(20, 2, 0).send(x);
        of(19, 3, 0).send(x);
        TestFile tooMany = new TestFile(House.A, 4);
        tooMany.batch(1, 1, 0).control();
        tooMany.batch(House.A, 2, 0).entry(2, House.B, 0, 0, 1).entry(2, House.B, 0, 1, 2).control();
        Check.due("too many", tooMany.send(x), -13);
        Check.due("rejected(20)", x.rejected(20), 1);
        Check.due("rejected(33)", x.rejected(33), 1);
        x.window(1);
        Check.due("its number is free", tooMany.send(x), 1);
    }

    private static void acceptedAnswersHowMany() {
        ClearingFiles x = House.ofThree();
        TestFile file = new TestFile(House.A, 1);
        file.batch(House.B, 1, 0).entry(2, House.A, 0, 1, 1).entry(7, House.B, 0, 1, 2).control();
        file.batch(House.C, 2, 9999).entry(7, House.C, 0, 1, 1).entry(2, House.B, 0, 1, 2).control();
        Check.due("four for three banks", file.send(x), 4);
        Check.due("waiting(0, 0)", x.waiting(0, 0), 1);
        Check.due("waiting(1, 0)", x.waiting(1, 0), 2);
        Check.due("waiting(2, 0)", x.waiting(2, 0), 1);
    }

    /** As many files as the promised calls leave room for, and none of them forgotten. */
    private static void manyFiles() {
        ClearingFiles x = new ClearingFiles();
        x.join(House.A);
        for (int number = 0; number < 253; number++) {
            Check.due("file " + number, new TestFile(House.A, number).send(x), 0);
        }
        Check.due("the last again", new TestFile(House.A, 252).send(x), -11);
        Check.due("the first again", new TestFile(House.A, 0).send(x), -11);
        Check.due("rejected(11)", x.rejected(11), 2);
    }
}
