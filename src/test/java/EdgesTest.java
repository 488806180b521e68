/** The edges of numbers and rows that the document names: least and greatest, empty and full, and no wrap-around. */
final class EdgesTest {
    public static void main(String[] args) {
        todayIsZeroAtFirst();
        ofBothThereMayBeNone();
        greatestSums();
        greatestNumbersHaveNoneGreater();
        dayAtItsEdges();
        fileNumberAndBankTogether();
        fortyMayWait();
        fortyWaitAndNoneComes();
        everyCode();
        everyAmountEdge();
        fortyAtOnce();
        hashOfManyReturns();
        sumsOfManyReturns();
        eachReasonOnce();
        aCreditThenItsWholeDebit();
        Check.finish();
    }

    private static TestFile credits(int number, int receiver, int day, int entries) {
        TestFile file = new TestFile(House.A, number).batch(House.A, 1, day);
        for (int trace = 1; trace <= entries; trace++) {
            file.entry(2, receiver, 0, 1, trace);
        }
        return file.control();
    }

    /** "TODAY is a number, 0 at first": the least day is not past, and is handed out at once; day 1 waits on. */
    private static void todayIsZeroAtFirst() {
        ClearingFiles x = House.ofThree();
        Check.due("day 0", credits(1, House.B, 0, 1).send(x), 1);
        Check.due("day 1", credits(2, House.B, 1, 1).send(x), 1);
        Check.due("rejected(22)", x.rejected(22), 0);
        Check.due("window(1)", x.window(1), 1);
        Check.due("waiting(1, 0)", x.waiting(1, 0), 1);
        x.post(1, 1);
        Check.due("window(1) again", x.window(1), 0);
        Check.due("day()", x.day(), 1);
        Check.due("window(1) on day 1", x.window(1), 1);
    }

    /** "Of both there may be none", and such a file is accepted like any other. */
    private static void ofBothThereMayBeNone() {
        ClearingFiles x = House.ofThree();
        Check.due("no batch", new TestFile(House.A, 1).send(x), 0);
        Check.due("no batch again", new TestFile(House.A, 1).send(x), -11);
        TestFile empty = new TestFile(House.A, 2);
        for (int batch = 1; batch <= 4; batch++) {
            empty.batch(House.A, batch, 0).control();
        }
        Check.due("four empty batches", empty.send(x), 0);
        Check.due("four empty batches again", empty.send(x), -11);
        for (int reason = 20; reason <= 24; reason++) {
            Check.due("rejected(" + reason + ")", x.rejected(reason), 0);
        }
        Check.due("waiting(0, 0)", x.waiting(0, 0), 0);
    }

    /** Twenty entries of the greatest routing and amount: the greatest that a control can have to say. */
    private static void greatestSums() {
        for (int code = 2; code <= 7; code += 5) {
            ClearingFiles x = House.ofThree();
            x.join(9997);
            TestFile file = new TestFile(9997, 9999).batch(9997, 9999, 9999);
            for (int trace = 9999980; trace <= 9999999; trace++) {
                file.entry(code, 9997, 999999, 9999999, trace);
            }
            Check.due("twenty of code " + code, file.control().send(x), 20);
            Check.due("waiting(3, 0)", x.waiting(3, 0), 20);
            Check.due("window(3)", x.window(3), 0);
        }
    }

    /** 0 is not greater than 9999, nor than trace 9999999. */
    private static void greatestNumbersHaveNoneGreater() {
        ClearingFiles x = House.ofThree();
        TestFile file = new TestFile(House.A, 1);
        file.batch(House.A, 9998, 0).entry(2, House.B, 0, 1, 9999998).entry(2, House.B, 0, 1, 9999999).control();
        file.batch(House.A, 9999, 0).entry(2, House.B, 0, 1, 9999999).entry(2, House.B, 0, 1, 0).control();
        file.batch(House.A, 0, 0).control();
        file.batch(House.A, 1, 0).entry(2, House.B, 0, 1, 0).control();
        Check.due("the first and the last", file.send(x), 3);
        Check.due("rejected(24)", x.rejected(24), 1);
        Check.due("rejected(21)", x.rejected(21), 1);
    }

    /** 22: "its day is less than today": the day before is, today is not. */
    private static void dayAtItsEdges() {
        ClearingFiles x = House.ofThree();
        for (int today = 1; today <= 11; today++) {
            x.day();
            Check.due("yesterday", credits(3 * today, House.B, today - 1, 1).send(x), 0);
            Check.due("rejected(22)", x.rejected(22), today);
            Check.due("today", credits(3 * today + 1, House.B, today, 1).send(x), 1);
            Check.due("the last day", credits(3 * today + 2, House.C, 9999, 1).send(x), 1);
            Check.due("window(1)", x.window(1), 1);
            Check.due("post(1, 1)", x.post(1, 1), 0);
        }
        Check.due("waiting(2, 0)", x.waiting(2, 0), 11);
        Check.due("window(2)", x.window(2), 0);
    }

    /** 11: "a file with this number from this bank": neither the number alone nor any sum of the two. */
    private static void fileNumberAndBankTogether() {
        ClearingFiles x = House.ofThree();
        Check.due("1009 and 319", new TestFile(House.A, 319).send(x), 0);
        Check.due("1328 and 0", new TestFile(House.B, 0).send(x), 0);
        Check.due("1328 and 319", new TestFile(House.B, 319).send(x), 0);
        Check.due("1009 and 0", new TestFile(House.A, 0).send(x), 0);
        Check.due("1634 and 9999", new TestFile(House.C, 9999).send(x), 0);
        Check.due("1634 and 999", new TestFile(House.C, 999).send(x), 0);
        Check.due("1009 and 319 again", new TestFile(House.A, 319).send(x), -11);
        Check.due("1634 and 9999 again", new TestFile(House.C, 9999).send(x), -11);
        Check.due("rejected(11)", x.rejected(11), 2);
    }

    /** 13: "more than 40": 40 may wait, for three banks and on two days together, and 41 may not. */
    private static void fortyMayWait() {
        ClearingFiles x = House.ofThree();
        Check.due("19 for B", credits(1, House.B, 0, 19).send(x), 19);
        Check.due("1 for A", credits(2, House.A, 0, 1).send(x), 1);
        Check.due("21 would be one too many, but no file has them", credits(3, House.C, 5, 20).send(x), 20);
        Check.due("one more for B", credits(4, House.B, 0, 1).send(x), -13);
        Check.due("one more for a later day", credits(4, House.C, 9, 1).send(x), -13);
        Check.due("window(0)", x.window(0), 1);
        Check.due("one in its place", credits(4, House.C, 9, 1).send(x), 1);
        Check.due("one more", credits(5, House.A, 0, 1).send(x), -13);
        Check.due("rejected(13)", x.rejected(13), 3);
        Check.due("waiting(2, 0)", x.waiting(2, 0), 21);
    }

    /** "For 13, only those that would be waiting are counted": what is rejected finds room where 40 wait. */
    private static void fortyWaitAndNoneComes() {
        ClearingFiles x = House.ofThree();
        credits(1, House.B, 0, 20).send(x);
        credits(2, House.C, 0, 20).send(x);
        TestFile file = new TestFile(House.A, 3).batch(House.A, 1, 0);
        file.entry(2, 1, 0, 1, 1).entry(2, 2268, 0, 1, 2).entry(3, House.B, 0, 1, 3).entry(2, House.B, 0, 0, 4);
        file.control().batch(House.A, 1, 0).entry(2, House.B, 0, 1, 1).control();
        file.batch(House.A, 2, 0).entry(2, House.B, 0, 1, 1).wrongControl(0, 1);
        Check.due("none that would wait", file.send(x), 0);
        for (int reason = 30; reason <= 33; reason++) {
            Check.due("rejected(" + reason + ")", x.rejected(reason), 1);
        }
        Check.due("one that would", credits(4, House.A, 0, 1).send(x), -13);
    }

    /** 32: "its code is neither 2 nor 7", and the sums are of 7 and 2 alone. */
    private static void everyCode() {
        for (int code = 0; code <= 9; code++) {
            ClearingFiles x = House.ofThree();
            boolean good = code == 2 || code == 7;
            TestFile file = new TestFile(House.A, 1).batch(House.A, 1, 0).entry(code, House.B, 0, 5, 1).control();
            Check.due("code " + code, file.send(x), good ? 1 : 0);
            Check.due("rejected(32) of " + code, x.rejected(32), good ? 0 : 1);
            Check.due("rejected(23) of " + code, x.rejected(23), 0);
            x.window(1);
            Check.due("debits of " + code, x.control(1, 2), code == 7 ? 5 : 0);
            Check.due("credits of " + code, x.control(1, 3), code == 2 ? 5 : 0);
        }
    }

    /** 33: "its amount is 0": the least amount that is taken is 1, and each of its seven digits counts. */
    private static void everyAmountEdge() {
        ClearingFiles x = House.ofThree();
        TestFile file = new TestFile(House.A, 1).batch(House.A, 1, 0).entry(2, House.B, 0, 0, 0);
        int trace = 1;
        for (int amount = 1; amount <= 1000000; amount *= 10) {
            file.entry(2, House.B, House.IN_B, amount, trace);
            trace++;
        }
        file.entry(7, House.B, 0, 0, trace).entry(2, House.B, House.IN_B, 9999999, trace + 1);
        Check.due("all but the zeros", file.control().send(x), 8);
        Check.due("rejected(33)", x.rejected(33), 2);
        x.window(1);
        Check.due("post(1, 40)", x.post(1, 40), 8);
        Check.due("balance", x.balance(1, House.IN_B), 300 + 1111111 + 9999999);
    }

    /** "n is not 1 .. 40", "the first n items": of 41 that are not done 40 are done at once, then as many as there are. */
    private static void fortyAtOnce() {
        ClearingFiles x = House.ofThree();
        credits(1, House.B, 0, 20).send(x);
        credits(2, House.B, 0, 20).send(x);
        x.window(1);
        Check.due("one", x.post(1, 1), 0);
        Check.due("all but one", x.post(1, 39), 0);
        credits(3, House.B, 0, 1).send(x);
        x.window(1);
        x.post(1, 1);
        Check.due("window(0)", x.window(0), 41);
        Check.due("41 at once", x.post(0, 41), ClearingFiles.BAD);
        Check.due("item 0", x.item(0, 0, 6), 0);
        Check.due("40 at once", x.post(0, 40), 0);
        Check.due("item 39", x.item(0, 39, 6), 1);
        Check.due("item 40", x.item(0, 40, 6), 0);
        Check.due("window(0)", x.window(0), ClearingFiles.OPEN);
        Check.due("40 where one is", x.post(0, 40), 0);
        Check.due("item 40", x.item(0, 40, 6), 1);
        Check.due("40 where none is", x.post(0, 40), 0);
        Check.due("window(0)", x.window(0), 0);
    }

    /** The hash is a sum: it does not wrap around behind six digits. */
    private static void hashOfManyReturns() {
        ClearingFiles x = new ClearingFiles();
        x.join(House.A);
        x.join(9997);
        for (int number = 1; number <= 6; number++) {
            credits(number, 9997, 0, 20).send(x);
            x.window(1);
            x.post(1, 40);
        }
        Check.due("window(0)", x.window(0), 120);
        Check.due("control(0, 0)", x.control(0, 0), 120);
        Check.due("control(0, 1)", x.control(0, 1), 120 * 9997);
    }

    /** Nor do the sums of the debits and of the credits, behind nine digits or the greatest int. */
    private static void sumsOfManyReturns() {
        for (int code = 2; code <= 7; code += 5) {
            ClearingFiles x = House.ofThree();
            for (int number = 1; number <= 11; number++) {
                TestFile file = new TestFile(House.A, number).batch(House.A, 1, 0);
                for (int trace = 1; trace <= 20; trace++) {
                    file.entry(code, House.B, 1, 9999999, trace);
                }
                file.control().send(x);
                x.window(1);
                x.post(1, 40);
            }
            long sum = 220L * 9999999;
            Check.due("window(0)", x.window(0), 220);
            Check.due("debits of code " + code, x.control(0, 2), code == 7 ? sum : 0);
            Check.due("credits of code " + code, x.control(0, 3), code == 2 ? sum : 0);
            Check.due("ledger(0)", x.ledger(0), 0);
        }
    }

    /** rejected(): one of each reason, "0 for other numbers". */
    private static void eachReasonOnce() {
        ClearingFiles x = House.ofThree();
        x.open(1, 13, 0);
        x.shut(1, 13);
        x.day();
        new TestFile(2268, 1).send(x);
        new TestFile(House.A, 1).send(x);
        new TestFile(House.A, 1).send(x);
        new TestFile(House.A, 2).sendWrong(x, 0, 1);
        TestFile file = new TestFile(House.A, 2).batch(2268, 5, 1).control().batch(House.A, 5, 1).control();
        file.batch(House.A, 6, 0).control().batch(House.A, 7, 1).wrongControl(0, 1).send(x);
        file = new TestFile(House.A, 3).batch(House.A, 1, 1).entry(2, House.B, 0, 1, 1).entry(2, House.B, 0, 1, 1);
        file.control().batch(House.A, 2, 1).entry(2, 1, 0, 1, 1).entry(2, 2268, 0, 1, 2).entry(1, House.B, 0, 1, 3);
        file.entry(2, House.B, 0, 0, 4).entry(7, House.B, House.IN_B, 301, 5).entry(2, House.B, 13, 1, 6);
        file.entry(2, House.B, 0, 1, 7).entry(2, House.B, 1, 1, 8);
        Check.due("four that are sent back", file.control().send(x), 4);
        x.window(1);
        Check.due("post(1, 4)", x.post(1, 4), 0);
        credits(4, House.B, 1, 20).send(x);
        credits(5, House.B, 1, 20).send(x);
        credits(6, House.B, 1, 1).send(x);
        for (int reason = -40; reason <= 70; reason++) {
            boolean once = reason >= 1 && reason <= 4 || reason >= 10 && reason <= 13
                    || reason >= 20 && reason <= 24 || reason >= 30 && reason <= 33;
            Check.due("rejected(" + reason + ")", x.rejected(reason), once ? 1 : 0);
        }
    }

    /** 1: "the balance is less than the amount": a debit of the whole balance is posted, one more is sent back. */
    private static void aCreditThenItsWholeDebit() {
        ClearingFiles x = House.ofThree();
        x.open(1, 13, 0);
        TestFile file = new TestFile(House.A, 1).batch(House.A, 1, 0);
        file.entry(2, House.B, 13, 9999998, 1).entry(7, House.B, 13, 9999999, 2).entry(7, House.B, 13, 9999998, 3);
        file.entry(7, House.B, 13, 1, 4).control().send(x);
        x.window(1);
        Check.due("post(1, 3)", x.post(1, 3), 2);
        Check.due("too great by one", x.item(1, 1, 6), 2);
        Check.due("the whole", x.item(1, 2, 6), 1);
        Check.due("balance", x.balance(1, 13), 0);
        Check.due("post(1, 1)", x.post(1, 1), 0);
        Check.due("rejected(1)", x.rejected(1), 2);
    }
}
