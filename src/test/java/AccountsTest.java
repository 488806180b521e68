/** Promises 3 (open), 4 (shut) and 12 (balance). */
final class AccountsTest {
    public static void main(String[] args) {
        openAndBalance();
        openRefuses();
        openFull();
        shutOnce();
        balanceRefuses();
        Check.finish();
    }

    private static ClearingFiles twoBanks() {
        ClearingFiles x = new ClearingFiles();
        x.join(1009);
        x.join(1328);
        return x;
    }

    private static void openAndBalance() {
        ClearingFiles x = twoBanks();
        Check.due("open(0, 0, 0)", x.open(0, 0, 0), true);
        Check.due("open(0, 13, 5)", x.open(0, 13, 5), true);
        Check.due("open(1, 999991, 1000000)", x.open(1, 999991, 1000000), true);
        Check.due("the same number at another bank", x.open(1, 13, 6), true);
        Check.due("balance(0, 0)", x.balance(0, 0), 0);
        Check.due("balance(0, 13)", x.balance(0, 13), 5);
        Check.due("balance(1, 999991)", x.balance(1, 999991), 1000000);
        Check.due("balance(1, 13)", x.balance(1, 13), 6);
    }

    private static void openRefuses() {
        ClearingFiles x = twoBanks();
        Check.due("open(-1, ..)", x.open(-1, 100007, 5), false);
        Check.due("open(2, ..)", x.open(2, 100007, 5), false);
        Check.due("open(min, ..)", x.open(Integer.MIN_VALUE, 100007, 5), false);
        Check.due("account -1", x.open(0, -1, 5), false);
        Check.due("account -100007", x.open(0, -100007, 5), false);
        Check.due("account 1000000", x.open(0, 1000000, 5), false);
        Check.due("account 1100007", x.open(0, 1100007, 5), false);
        Check.due("account 100008", x.open(0, 100008, 5), false);
        Check.due("account 700001", x.open(0, 700001, 5), false);
        Check.due("balance -1", x.open(0, 100007, -1), false);
        Check.due("balance 1000001", x.open(0, 100007, 1000001), false);
        Check.due("nothing was opened", x.balance(0, 100007), ClearingFiles.BAD);
        Check.due("open(0, 100007, 5)", x.open(0, 100007, 5), true);
        Check.due("open(0, 100007, 6)", x.open(0, 100007, 6), false);
        Check.due("its balance stays", x.balance(0, 100007), 5);
        x.shut(0, 100007);
        Check.due("open of a shut one", x.open(0, 100007, 6), false);
        Check.due("it is still shut", x.shut(0, 100007), false);
    }

    private static void openFull() {
        ClearingFiles x = twoBanks();
        int opened = 0;
        for (int number = 0; opened < 12; number++) {
            if (x.open(opened % 2, number, opened)) {
                opened++;
            }
        }
        Check.due("the thirteenth", x.open(0, 999991, 5), false);
        x.shut(0, 0);
        Check.due("the thirteenth, one being shut", x.open(1, 999991, 5), false);
        Check.due("its balance", x.balance(1, 999991), ClearingFiles.BAD);
    }

    private static void shutOnce() {
        ClearingFiles x = twoBanks();
        x.open(0, 100007, 5);
        Check.due("shut at another bank", x.shut(1, 100007), false);
        Check.due("shut of no account", x.shut(0, 13), false);
        Check.due("shut at no bank", x.shut(-1, 100007), false);
        Check.due("shut at bank 2", x.shut(2, 100007), false);
        Check.due("shut", x.shut(0, 100007), true);
        Check.due("shut again", x.shut(0, 100007), false);
        Check.due("the balance of a shut one", x.balance(0, 100007), 5);
    }

    private static void balanceRefuses() {
        ClearingFiles x = twoBanks();
        x.open(0, 100007, 5);
        Check.due("balance at another bank", x.balance(1, 100007), ClearingFiles.BAD);
        Check.due("balance at no bank", x.balance(2, 100007), ClearingFiles.BAD);
        Check.due("balance at bank -1", x.balance(-1, 100007), ClearingFiles.BAD);
        Check.due("balance of no account", x.balance(0, 13), ClearingFiles.BAD);
        Check.due("balance of -1", x.balance(0, -1), ClearingFiles.BAD);
    }
}
