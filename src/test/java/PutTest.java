/** Promise 6 (put): what a record's coming answers, before its file is looked at as a whole. */
final class PutTest {
    private static final long GREATEST = 999999999999999999L;

    public static void main(String[] args) {
        badChangesNothing();
        edgesOfHalves();
        orderWhenNoneIsUnderWay();
        orderAfterHeader();
        orderInBatch();
        orderAfterBatch();
        fifthBatch();
        twentyFirstEntry();
        givenUpCountsForNothing();
        digitsNotLookedAt();
        Check.finish();
    }

    private static void badChangesNothing() {
        ClearingFiles x = House.ofThree();
        Check.due("header", Records.put(x, Records.header(House.A, 1)), 0);
        Check.due("high -1", x.put(-1, 0), ClearingFiles.BAD);
        Check.due("low -1", x.put(900000000000000000L, -1), ClearingFiles.BAD);
        Check.due("high too great", x.put(GREATEST + 1, 0), ClearingFiles.BAD);
        Check.due("low too great", x.put(900000000000000000L, GREATEST + 1), ClearingFiles.BAD);
        Check.due("least", x.put(Long.MIN_VALUE, Long.MIN_VALUE), ClearingFiles.BAD);
        Check.due("greatest", x.put(Long.MAX_VALUE, Long.MAX_VALUE), ClearingFiles.BAD);
        Check.due("the file goes on", Records.put(x, Records.fileControl(0, 0, 0, 0, 0)), 0);
        Check.due("bad when none is under way", x.put(-1, 0), ClearingFiles.BAD);
    }

    private static void edgesOfHalves() {
        ClearingFiles x = House.ofThree();
        Check.due("type 0", x.put(0, 0), ClearingFiles.ORDER);
        Check.due("type 9", x.put(GREATEST, GREATEST), ClearingFiles.ORDER);
        Check.due("header with the greatest low", x.put(110090001999999999L, GREATEST), 0);
        Check.due("header with the least low is under way", x.put(900000000000000000L, 0), 0);
    }

    private static void orderWhenNoneIsUnderWay() {
        ClearingFiles x = House.ofThree();
        for (int type = 0; type <= 9; type++) {
            if (type != 1) {
                Check.due("type " + type, x.put(type * 100000000000000000L, 0), ClearingFiles.ORDER);
            }
        }
    }

    /** Every type that may not come gives the file up, so that its control may not come then either. */
    private static void refusesBut(String[] before, int mayCome, int mayComeToo) {
        for (int type = 0; type <= 9; type++) {
            if (type == mayCome || type == mayComeToo) {
                continue;
            }
            ClearingFiles x = House.ofThree();
            for (String record : before) {
                Check.due("before", Records.put(x, record), 0);
            }
            Check.due("type " + type, x.put(type * 100000000000000000L, 0), ClearingFiles.ORDER);
            Check.due("batch header", Records.put(x, Records.batch(House.A, 2, 0)), ClearingFiles.ORDER);
            Check.due("entry", Records.put(x, Records.entry(2, House.B, 0, 1, 1)), ClearingFiles.ORDER);
            Check.due("batch control", Records.put(x, Records.batchControl(0, 0, 0, 0)), ClearingFiles.ORDER);
            Check.due("file control", Records.put(x, Records.fileControl(0, 0, 0, 0, 0)), ClearingFiles.ORDER);
            Check.due("a new file", new TestFile(House.A, 1).send(x), 0);
        }
    }

    private static void orderAfterHeader() {
        refusesBut(new String[] {Records.header(House.A, 1)}, 5, 9);
    }

    private static void orderInBatch() {
        refusesBut(new String[] {Records.header(House.A, 1), Records.batch(House.A, 1, 0)}, 6, 8);
        refusesBut(new String[] {Records.header(House.A, 1), Records.batch(House.A, 1, 0),
            Records.entry(2, House.B, 0, 1, 1)}, 6, 8);
    }

    private static void orderAfterBatch() {
        refusesBut(new String[] {Records.header(House.A, 1), Records.batch(House.A, 1, 0),
            Records.batchControl(0, 0, 0, 0)}, 5, 9);
    }

    private static void fifthBatch() {
        ClearingFiles x = House.ofThree();
        Records.put(x, Records.header(House.A, 1));
        for (int number = 1; number <= 4; number++) {
            Check.due("batch header", Records.put(x, Records.batch(House.A, number, 0)), 0);
            Check.due("batch control", Records.put(x, Records.batchControl(0, 0, 0, 0)), 0);
        }
        Check.due("the fifth", Records.put(x, Records.batch(House.A, 5, 0)), ClearingFiles.FULL);
        Check.due("given up", Records.put(x, Records.fileControl(4, 0, 0, 0, 0)), ClearingFiles.ORDER);
        TestFile four = new TestFile(House.A, 1);
        for (int number = 1; number <= 4; number++) {
            four.batch(House.A, number, 0).entry(2, House.B, 0, 1, 1).control();
        }
        Check.due("four of a new file", four.send(x), 4);
        // A batch header in a batch may not come at all: no matter that it is the fifth.
        Records.put(x, Records.header(House.A, 2));
        for (int number = 1; number <= 3; number++) {
            Records.put(x, Records.batch(House.A, number, 0));
            Records.put(x, Records.batchControl(0, 0, 0, 0));
        }
        Check.due("the fourth", Records.put(x, Records.batch(House.A, 4, 0)), 0);
        Check.due("the fifth in the fourth", Records.put(x, Records.batch(House.A, 5, 0)), ClearingFiles.ORDER);
    }

    private static void twentyFirstEntry() {
        ClearingFiles x = House.ofThree();
        Records.put(x, Records.header(House.A, 1));
        Records.put(x, Records.batch(House.A, 1, 0));
        for (int trace = 1; trace <= 15; trace++) {
            Check.due("entry", Records.put(x, Records.entry(2, House.B, 0, 1, trace)), 0);
        }
        Records.put(x, Records.batchControl(15, 15 * House.B, 0, 15));
        Records.put(x, Records.batch(House.A, 2, 0));
        for (int trace = 1; trace <= 5; trace++) {
            Check.due("entry", Records.put(x, Records.entry(2, House.B, 0, 1, trace)), 0);
        }
        Check.due("the 21st", Records.put(x, Records.entry(2, House.B, 0, 1, 6)), ClearingFiles.FULL);
        Check.due("given up", Records.put(x, Records.batchControl(5, 5 * House.B, 0, 5)), ClearingFiles.ORDER);
        Check.due("nothing waits", x.waiting(1, 0), 0);
        TestFile twenty = new TestFile(House.A, 1).batch(House.A, 1, 0);
        for (int trace = 1; trace <= 20; trace++) {
            twenty.entry(2, House.B, 0, 1, trace);
        }
        Check.due("twenty of a new file", twenty.control().send(x), 20);
    }

    private static void givenUpCountsForNothing() {
        ClearingFiles x = House.ofThree();
        // Were it not given up, it would be rejected, and so would its batch and its entry.
        Records.put(x, Records.header(House.A, 1));
        Records.put(x, Records.batch(1, 1, 0));
        Records.put(x, Records.entry(3, 1, 0, 0, 1));
        Records.put(x, Records.batchControl(9, 9, 9, 9));
        Check.due("a header", Records.put(x, Records.header(House.A, 1)), ClearingFiles.ORDER);
        Check.due("it begins none", Records.put(x, Records.fileControl(0, 0, 0, 0, 0)), ClearingFiles.ORDER);
        for (int reason = 0; reason < 40; reason++) {
            Check.due("rejected(" + reason + ")", x.rejected(reason), 0);
        }
        Check.due("the same number again", new TestFile(House.A, 1).batch(House.A, 1, 0)
                .entry(2, House.B, 0, 1, 1).control().send(x), 1);
        Check.due("waiting", x.waiting(1, 0), 1);
    }

    private static void digitsNotLookedAt() {
        ClearingFiles x = House.ofThree();
        Check.due("header", x.put(110090001123456789L, 123456789012345678L), 0);
        Check.due("batch header", x.put(510090001000012345L, 123456789012345678L), 0);
        Check.due("entry", x.put(621328170134123456L, 1230000004561234L), 0);
        Check.due("batch control", x.put(800010013281234567L, 1L), 0);
        Check.due("file control", x.put(900010001001328123L, 1L), -12);
        Check.due("header", x.put(110090001123456789L, 123456789012345678L), 0);
        Check.due("batch header", x.put(510090001000012345L, 123456789012345678L), 0);
        Check.due("entry", x.put(621328170134123456L, 12300000451234L), 0);
        Check.due("batch control", x.put(800010013281234567L, 123L), 0);
        Check.due("file control", x.put(900010001001328123L, 123L), 1);
        Check.due("window", x.window(1), 1);
        Check.due("account", x.item(1, 0, 2), 170134);
        Check.due("amount", x.item(1, 0, 3), 123);
        Check.due("trace", x.item(1, 0, 4), 45);
    }
}
