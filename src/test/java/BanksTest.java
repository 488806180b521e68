/** Promises 1 (a new object), 2 (join) and 5 (day). */
final class BanksTest {
    public static void main(String[] args) {
        newObject();
        joinAnswersNumbers();
        joinRefuses();
        joinFull();
        dayCounts();
        Check.finish();
    }

    private static void newObject() {
        ClearingFiles x = new ClearingFiles();
        Check.due("waiting(0, 0)", x.waiting(0, 0), ClearingFiles.BAD);
        Check.due("items(0)", x.items(0), ClearingFiles.BAD);
        Check.due("window(0)", x.window(0), ClearingFiles.BAD);
        Check.due("post(0, 1)", x.post(0, 1), ClearingFiles.BAD);
        Check.due("item(0, 0, 0)", x.item(0, 0, 0), ClearingFiles.BAD);
        Check.due("control(0, 0)", x.control(0, 0), ClearingFiles.BAD);
        Check.due("balance(0, 0)", x.balance(0, 0), ClearingFiles.BAD);
        Check.due("ledger(0)", x.ledger(0), 0);
        Check.due("open(0, 0, 0)", x.open(0, 0, 0), false);
        Check.due("shut(0, 0)", x.shut(0, 0), false);
        for (int reason = -1; reason < 40; reason++) {
            Check.due("rejected(" + reason + ")", x.rejected(reason), 0);
        }
        Check.due("no file under way", Records.put(x, Records.batch(1009, 1, 0)), ClearingFiles.ORDER);
        Check.due("day()", x.day(), 1);
        ClearingFiles other = new ClearingFiles();
        Check.due("day() of another object", other.day(), 1);
    }

    private static void joinAnswersNumbers() {
        ClearingFiles x = new ClearingFiles();
        Check.due("join(0)", x.join(0), 0);
        Check.due("join(13)", x.join(13), 1);
        Check.due("join(9997)", x.join(9997), 2);
        Check.due("waiting(2, 0)", x.waiting(2, 0), 0);
        Check.due("waiting(3, 0)", x.waiting(3, 0), ClearingFiles.BAD);
    }

    private static void joinRefuses() {
        ClearingFiles x = new ClearingFiles();
        Check.due("join(-1)", x.join(-1), ClearingFiles.BAD);
        Check.due("join(-10)", x.join(-10), ClearingFiles.BAD);
        Check.due("join(10000)", x.join(10000), ClearingFiles.BAD);
        Check.due("join(10009)", x.join(10009), ClearingFiles.BAD);
        Check.due("join(100090)", x.join(100090), ClearingFiles.BAD);
        Check.due("join(min)", x.join(Integer.MIN_VALUE), ClearingFiles.BAD);
        Check.due("join(max)", x.join(Integer.MAX_VALUE), ClearingFiles.BAD);
        Check.due("join(9999)", x.join(9999), ClearingFiles.BAD);
        // Right from behind only.
        Check.due("join(8231)", x.join(8231), ClearingFiles.BAD);
        Check.due("join(1009)", x.join(1009), 0);
        Check.due("join(1009) again", x.join(1009), ClearingFiles.BAD);
        Check.due("join(1328)", x.join(1328), 1);
        Check.due("join(1009) once more", x.join(1009), ClearingFiles.BAD);
    }

    private static void joinFull() {
        ClearingFiles x = new ClearingFiles();
        int[] routings = {1009, 1328, 1634, 2268, 5005};
        for (int k = 0; k < routings.length; k++) {
            Check.due("join number " + k, x.join(routings[k]), k);
        }
        Check.due("the sixth", x.join(7003), ClearingFiles.FULL);
        Check.due("the sixth, not right", x.join(7004), ClearingFiles.BAD);
        Check.due("the sixth, joined before", x.join(5005), ClearingFiles.BAD);
        Check.due("the sixth, no routing", x.join(10000), ClearingFiles.BAD);
        Check.due("waiting(4, 0)", x.waiting(4, 0), 0);
        Check.due("waiting(5, 0)", x.waiting(5, 0), ClearingFiles.BAD);
        // The refused one is no bank: it can't send.
        Check.due("a file from the refused one", new TestFile(7003, 1).send(x), -10);
        Check.due("a file from the fifth", new TestFile(5005, 1).send(x), 0);
    }

    /** As many days as an object has calls. */
    private static void dayCounts() {
        ClearingFiles x = new ClearingFiles();
        for (int today = 1; today <= 512; today++) {
            Check.due("day()", x.day(), today);
        }
    }
}
