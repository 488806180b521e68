/** Promise 6: "A file that was given up or rejected counts for nothing", and what may come when none is under way. */
final class GivenUpTest {
    public static void main(String[] args) {
        onlyAHeaderAfterAnEnd();
        onlyAHeaderAfterBeingFull();
        nothingIsLeftOfAFullFile();
        nothingIsLeftOfABatch();
        anEntryMoreIsFullInEveryBatch();
        aHeaderAtEveryPlace();
        numberOfAFileGivenUpIsFree();
        Check.finish();
    }

    private static void onlyAHeader(String after, ClearingFiles x) {
        for (int type = 0; type <= 9; type++) {
            if (type != 1) {
                Check.due("type " + type + " after " + after, x.put(type * 100000000000000000L, 0),
                        ClearingFiles.ORDER);
            }
        }
        Check.due("a file after " + after, new TestFile(House.C, 5).batch(House.A, 1, 0)
                .entry(7, House.A, 0, 3, 1).control().send(x), 1);
    }

    private static void onlyAHeaderAfterAnEnd() {
        ClearingFiles x = House.ofThree();
        Check.due("an accepted file", new TestFile(House.A, 1).send(x), 0);
        onlyAHeader("an accepted file", x);
        x = House.ofThree();
        Check.due("a rejected file", new TestFile(House.A, 1).sendWrong(x, 4, 1), -12);
        onlyAHeader("a rejected file", x);
        x = House.ofThree();
        Check.due("a file of nobody", new TestFile(2268, 1).send(x), -10);
        onlyAHeader("a file of nobody", x);
    }

    private static void onlyAHeaderAfterBeingFull() {
        ClearingFiles x = House.ofThree();
        begin(x, 4, 0);
        Check.due("the fifth batch", Records.put(x, Records.batch(House.A, 9, 0)), ClearingFiles.FULL);
        onlyAHeader("the fifth batch", x);
        x = House.ofThree();
        begin(x, 1, 20);
        Records.put(x, Records.batch(House.A, 9, 0));
        Check.due("the 21st entry", Records.put(x, Records.entry(2, House.B, 0, 1, 99)), ClearingFiles.FULL);
        onlyAHeader("the 21st entry", x);
    }

    /** A header and so many ended batches, each with so many entries. */
    private static void begin(ClearingFiles x, int batches, int entries) {
        Check.due("header", Records.put(x, Records.header(House.A, 1)), 0);
        for (int batch = 1; batch <= batches; batch++) {
            Check.due("batch " + batch, Records.put(x, Records.batch(House.A, batch, 0)), 0);
            for (int trace = 1; trace <= entries; trace++) {
                Check.due("entry", Records.put(x, Records.entry(2, House.B, 0, 1, trace)), 0);
            }
            Check.due("control", Records.put(x, Records.batchControl(entries, entries * House.B, 0, entries)), 0);
        }
    }

    private static TestFile four(int number) {
        TestFile file = new TestFile(House.A, number);
        for (int batch = 1; batch <= 4; batch++) {
            file.batch(House.A, batch, 0);
            for (int trace = 1; trace <= 5; trace++) {
                file.entry(2, House.B, House.IN_B, 1, trace);
            }
            file.control();
        }
        return file;
    }

    /** Neither its four batches nor its twenty entries count in the next file. */
    private static void nothingIsLeftOfAFullFile() {
        ClearingFiles x = House.ofThree();
        begin(x, 4, 5);
        Check.due("a header", Records.put(x, Records.header(House.A, 1)), ClearingFiles.ORDER);
        Check.due("four batches of five", four(1).send(x), 20);
        begin(x, 4, 5);
        Check.due("rejected", Records.put(x, Records.fileControl(4, 20, 20 * House.B, 0, 20)), -11);
        Check.due("four batches of five more", four(2).send(x), 20);
        Check.due("waiting(1, 0)", x.waiting(1, 0), 40);
    }

    /** Neither its entries, its last trace nor its number count in the batches of the next file. */
    private static void nothingIsLeftOfABatch() {
        ClearingFiles x = House.ofThree();
        Records.put(x, Records.header(House.A, 1));
        Records.put(x, Records.batch(House.A, 9, 0));
        Records.put(x, Records.entry(7, House.B, 0, 1, 9));
        Records.put(x, Records.entry(2, House.B, 0, 1, 8));
        Check.due("a file control in a batch", Records.put(x, Records.fileControl(1, 2, 2 * House.B, 1, 1)),
                ClearingFiles.ORDER);
        TestFile file = new TestFile(House.A, 1);
        file.batch(House.A, 1, 0).control().batch(House.A, 2, 0).entry(2, House.B, 0, 1, 1).control();
        Check.due("an empty batch and one of one", file.send(x), 1);
        Check.due("rejected(21)", x.rejected(21), 0);
        Check.due("rejected(23)", x.rejected(23), 0);
        Check.due("rejected(24)", x.rejected(24), 0);
    }

    private static void anEntryMoreIsFullInEveryBatch() {
        for (int batches = 0; batches <= 3; batches++) {
            ClearingFiles x = House.ofThree();
            begin(x, batches, 5);
            Records.put(x, Records.batch(House.A, 9, 0));
            for (int trace = 1; trace <= 20 - 5 * batches; trace++) {
                Check.due("entry", Records.put(x, Records.entry(3, 1, 0, 0, 1)), 0);
            }
            Check.due("the 21st after " + batches + " batches", Records.put(x, Records.entry(3, 1, 0, 0, 1)),
                    ClearingFiles.FULL);
            Check.due("the 22nd", Records.put(x, Records.entry(3, 1, 0, 0, 1)), ClearingFiles.ORDER);
        }
    }

    private static void aHeaderAtEveryPlace() {
        String[] records = {Records.header(House.A, 1), Records.batch(House.A, 1, 0),
            Records.entry(2, House.B, 0, 1, 1), Records.batchControl(1, House.B, 0, 1),
            Records.fileControl(1, 1, House.B, 0, 1)};
        for (int place = 1; place <= 4; place++) {
            ClearingFiles x = House.ofThree();
            for (int k = 0; k < place; k++) {
                Check.due("record " + k, Records.put(x, records[k]), 0);
            }
            Check.due("a header before record " + place, Records.put(x, records[0]), ClearingFiles.ORDER);
            Check.due("it begins none: " + place, Records.put(x, records[place]), ClearingFiles.ORDER);
            Check.due("waiting(1, 0)", x.waiting(1, 0), 0);
            for (int k = 0; k < 4; k++) {
                Check.due("record " + k + " again", Records.put(x, records[k]), 0);
            }
            Check.due("its end", Records.put(x, records[4]), 1);
        }
    }

    private static void numberOfAFileGivenUpIsFree() {
        ClearingFiles x = House.ofThree();
        begin(x, 1, 1);
        Check.due("type 0", x.put(0, 0), ClearingFiles.ORDER);
        begin(x, 1, 1);
        Check.due("accepted", Records.put(x, Records.fileControl(1, 1, House.B, 0, 1)), 1);
        begin(x, 1, 1);
        Check.due("accepted before", Records.put(x, Records.fileControl(1, 1, House.B, 0, 1)), -11);
        for (int reason = 0; reason <= 33; reason++) {
            Check.due("rejected(" + reason + ")", x.rejected(reason), reason == 11 ? 1 : 0);
        }
    }
}
