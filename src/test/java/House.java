/** The banks and accounts that most tests begin with. */
final class House {
    static final int A = 1009;
    static final int B = 1328;
    static final int C = 1634;
    static final int IN_A = 100007;
    static final int IN_B = 170134;
    static final int IN_C = 310376;

    private House() {
    }

    static ClearingFiles ofThree() {
        ClearingFiles x = new ClearingFiles();
        x.join(A);
        x.join(B);
        x.join(C);
        x.open(0, IN_A, 500);
        x.open(1, IN_B, 300);
        x.open(2, IN_C, 1000);
        return x;
    }
}
