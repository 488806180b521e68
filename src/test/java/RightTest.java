/** Who is RIGHT, place by place: "the first times 3, the second times 7, the third times 1, and so on again". */
final class RightTest {
    private static final int[] WEIGHTS = {3, 7, 1, 3, 7, 1};

    public static void main(String[] args) {
        everyRouting();
        everyPairOfPlacesOfAnAccount();
        nothingButZeros();
        everyPlaceOfAReceiver();
        everyPlaceOfAnEntrysAccount();
        Check.finish();
    }

    private static boolean right(String digits) {
        int sum = 0;
        for (int place = 0; place < digits.length(); place++) {
            sum += WEIGHTS[place] * (digits.charAt(place) - '0');
        }
        return sum % 10 == 0;
    }

    /** Below 0 and above 9999, too: numbers whose last four digits would be right are no routings. */
    private static void everyRouting() {
        for (int routing = -20000; routing <= 30000; routing++) {
            boolean good = routing >= 0 && routing <= 9999 && right(String.format("%04d", routing));
            Check.due("join(" + routing + ")", new ClearingFiles().join(routing), good ? 0 : ClearingFiles.BAD);
        }
    }

    private static boolean opens(int account) {
        ClearingFiles x = new ClearingFiles();
        x.join(House.A);
        return x.open(0, account, 0);
    }

    private static void everyPairOfPlacesOfAnAccount() {
        for (int first = 0; first < 6; first++) {
            for (int second = first + 1; second < 6; second++) {
                for (int pair = 0; pair < 100; pair++) {
                    char[] digits = "000000".toCharArray();
                    digits[first] = (char) ('0' + pair / 10);
                    digits[second] = (char) ('0' + pair % 10);
                    String text = new String(digits);
                    Check.due("open(0, " + text + ", 0)", opens(Integer.parseInt(text)), right(text));
                }
            }
        }
        for (int account = -3000; account < 0; account++) {
            Check.due("open(0, " + account + ", 0)", opens(account), false);
        }
        for (int account = 1000000; account <= 1003000; account++) {
            Check.due("open(0, " + account + ", 0)", opens(account), false);
        }
    }

    /** A sum of 0 ends in 0. */
    private static void nothingButZeros() {
        ClearingFiles x = new ClearingFiles();
        Check.due("join(0)", x.join(0), 0);
        Check.due("open(0, 0, 9)", x.open(0, 0, 9), true);
        TestFile file = new TestFile(0, 0).batch(0, 0, 0).entry(7, 0, 0, 9, 0).control();
        Check.due("a file of zeros", file.send(x), 1);
        Check.due("window(0)", x.window(0), 1);
        Check.due("post(0, 1)", x.post(0, 1), 1);
        Check.due("balance(0, 0)", x.balance(0, 0), 0);
        Check.due("rejected(4)", x.rejected(4), 0);
        Check.due("rejected(30)", x.rejected(30), 0);
    }

    /** One up or down in any place is not RIGHT, so it is 30, not 31. */
    private static void everyPlaceOfAReceiver() {
        int[] receivers = {2328, 328, 1428, 1228, 1338, 1318, 1329, 1327};
        for (int receiver : receivers) {
            ClearingFiles x = House.ofThree();
            TestFile file = new TestFile(House.A, 1).batch(House.A, 1, 0).entry(2, receiver, 0, 1, 1).control();
            Check.due("to " + receiver, file.send(x), 0);
            Check.due("rejected(30) of " + receiver, x.rejected(30), 1);
            Check.due("rejected(31) of " + receiver, x.rejected(31), 0);
        }
    }

    /** One up or down in any place is not RIGHT, so it is 4, not 3. */
    private static void everyPlaceOfAnEntrysAccount() {
        int[] accounts = {270134, 70134, 180134, 160134, 171134, 179134, 170234, 170034, 170144, 170124, 170135, 170133};
        ClearingFiles x = House.ofThree();
        TestFile file = new TestFile(House.A, 1).batch(House.A, 1, 0);
        for (int k = 0; k < accounts.length; k++) {
            file.entry(2, House.B, accounts[k], 1, k);
        }
        Check.due("file", file.control().send(x), accounts.length);
        x.window(1);
        for (int k = 0; k < accounts.length; k++) {
            Check.due("post of " + accounts[k], x.post(1, 1), 0);
            Check.due("rejected(4) at " + accounts[k], x.rejected(4), k + 1);
        }
        Check.due("rejected(3)", x.rejected(3), 0);
    }
}
