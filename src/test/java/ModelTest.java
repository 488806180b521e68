import java.util.ArrayList;
import java.util.List;
import java.util.Random;

/** Runs of 512 calls, the same ones each time, on the class and on the model: each answer must be the same. */
final class ModelTest {
    private static final int RUNS = 400;
    private static final int CALLS = 512;
    private static final int[] ROUTINGS = {1009, 1328, 1634, 2268, 5005, 7003, 0};
    private static final int[] ACCOUNTS = {0, 13, 26, 100007, 170134, 240255, 310376, 999991};

    private final Random random;
    private final ClearingFiles x = new ClearingFiles();
    private final Model model = new Model();
    private final List<String> records = new ArrayList<>();
    private final List<Integer> joined = new ArrayList<>();
    private final String run;
    private final int crowd;
    private int calls = 0;
    private int today = 0;
    private int fileNumber = 0;

    private ModelTest(int run) {
        this.run = "run " + run + " call ";
        this.random = new Random(run);
        // Some runs seldom open a window, so that very many entries wait.
        this.crowd = oneIn(3) ? 8 : 1;
    }

    public static void main(String[] args) {
        for (int run = 0; run < RUNS; run++) {
            new ModelTest(run).play();
        }
        Check.finish();
    }

    private void play() {
        int banks = oneIn(8) ? random.nextInt(7) : 3 + random.nextInt(3);
        for (int k = 0; k < banks; k++) {
            join(ROUTINGS[k]);
        }
        int accounts = random.nextInt(16);
        for (int k = 0; k < accounts; k++) {
            open();
        }
        while (calls < CALLS) {
            step();
        }
        lookAtAll();
    }

    private void due(String call, long got, long want) {
        calls++;
        Check.due(run + calls + " " + call, got, want);
    }

    private boolean oneIn(int n) {
        return random.nextInt(n) == 0;
    }

    private int oneOf(int[] numbers) {
        return numbers[random.nextInt(numbers.length)];
    }

    private int bank() {
        return oneIn(30) ? random.nextInt(8) - 2 : random.nextInt(Math.max(1, joined.size()));
    }

    private void join(int routing) {
        int bank = x.join(routing);
        due("join(" + routing + ")", bank, model.join(routing));
        if (bank >= 0) {
            joined.add(routing);
        }
    }

    private void open() {
        int bank = bank();
        int account = oneIn(6) ? random.nextInt(1000002) - 1 : oneOf(ACCOUNTS);
        int balance = oneIn(9) ? random.nextInt(3) * 1000000 - 500000 + random.nextInt(2000002) : random.nextInt(500);
        due("open(" + bank + ", " + account + ", " + balance + ")", x.open(bank, account, balance) ? 1 : 0,
                model.open(bank, account, balance) ? 1 : 0);
    }

    private void step() {
        int bank = bank();
        switch (random.nextInt(16)) {
            case 0:
            case 1:
                writeFile();
                putAll();
                break;
            case 2:
                if (oneIn(2)) {
                    today++;
                    due("day()", x.day(), model.day());
                }
                break;
            case 3:
            case 4:
            case 5:
                if (oneIn(crowd)) {
                    due("window(" + bank + ")", x.window(bank), model.window(bank));
                }
                break;
            case 6:
            case 7:
            case 8:
                int n = oneIn(2) ? 40 : random.nextInt(44) - 1;
                due("post(" + bank + ", " + n + ")", x.post(bank, n), model.post(bank, n));
                break;
            case 9:
                if (oneIn(4)) {
                    int account = oneOf(ACCOUNTS);
                    due("shut", x.shut(bank, account) ? 1 : 0, model.shut(bank, account) ? 1 : 0);
                } else if (oneIn(3)) {
                    join(oneIn(2) ? random.nextInt(10002) - 1 : oneOf(ROUTINGS));
                } else {
                    open();
                }
                break;
            default:
                look(bank);
        }
    }

    private void look(int bank) {
        int which = random.nextInt(9) - 1;
        int k = random.nextInt(oneIn(2) ? 4 : 44) - 1;
        int reason = random.nextInt(37) - 1;
        int account = oneOf(ACCOUNTS);
        switch (random.nextInt(7)) {
            case 0:
                due("items(" + bank + ")", x.items(bank), model.items(bank));
                break;
            case 1:
                due("control(" + bank + ", " + which + ")", x.control(bank, which), model.control(bank, which));
                break;
            case 2:
                due("balance(" + bank + ", " + account + ")", x.balance(bank, account),
                        model.balance(bank, account));
                break;
            case 3:
                due("ledger(" + bank + ")", x.ledger(bank), model.ledger(bank));
                break;
            case 4:
                due("rejected(" + reason + ")", x.rejected(reason), model.rejected(reason));
                break;
            case 5:
                due("waiting(" + bank + ", " + which + ")", x.waiting(bank, which), model.waiting(bank, which));
                break;
            default:
                due("item(" + bank + ", " + k + ", " + which + ")", x.item(bank, k, which),
                        model.item(bank, k, which));
        }
    }

    /** Looking changes nothing, so these calls may stand behind the 512th. */
    private void lookAtAll() {
        for (int reason = 0; reason <= 34; reason++) {
            due("rejected(" + reason + ")", x.rejected(reason), model.rejected(reason));
        }
        for (int bank = 0; bank < 5; bank++) {
            due("ledger(" + bank + ")", x.ledger(bank), model.ledger(bank));
            for (int account : ACCOUNTS) {
                due("balance(" + bank + ", " + account + ")", x.balance(bank, account),
                        model.balance(bank, account));
            }
            for (int which = 0; which < 7; which++) {
                due("waiting(" + bank + ", " + which + ")", x.waiting(bank, which), model.waiting(bank, which));
                due("control(" + bank + ", " + which + ")", x.control(bank, which), model.control(bank, which));
                for (int k = 0; k <= x.items(bank); k++) {
                    due("item(" + bank + ", " + k + ", " + which + ")", x.item(bank, k, which),
                            model.item(bank, k, which));
                }
            }
        }
    }

    private int routing() {
        if (oneIn(60) || joined.isEmpty()) {
            return oneIn(2) ? random.nextInt(10000) : oneOf(ROUTINGS);
        }
        return joined.get(random.nextInt(joined.size()));
    }

    private int off(int number) {
        return oneIn(100) ? Math.max(0, number + random.nextInt(3) - 1) : number;
    }

    private void writeFile() {
        records.clear();
        fileNumber = oneIn(12) ? random.nextInt(10) : fileNumber + 1;
        records.add(Records.header(routing(), fileNumber));
        int batches = oneIn(25) ? 5 : random.nextInt(5);
        int[] file = new int[4];
        int number = random.nextInt(3);
        int most = oneIn(4) ? 22 : 5;
        for (int k = 0; k < batches; k++) {
            int day = Math.max(0, today + (oneIn(12) ? -1 : oneIn(3) ? random.nextInt(4) : 0));
            records.add(Records.batch(routing(), number, day));
            number = Math.max(0, number + (oneIn(12) ? -random.nextInt(3) : 1 + random.nextInt(3)));
            writeBatch(file, random.nextInt(most));
        }
        records.add(Records.fileControl(off(batches), off(file[0]), off(file[1]), off(file[2]), off(file[3])));
    }

    private void writeBatch(int[] file, int entries) {
        int[] batch = new int[4];
        int trace = random.nextInt(3);
        for (int k = 0; k < entries; k++) {
            int code = oneIn(25) ? random.nextInt(10) : oneIn(2) ? 7 : 2;
            int routing = routing();
            int amount = oneIn(20) ? 0 : oneIn(20) ? 9999999 : random.nextInt(400);
            int account = oneIn(20) ? random.nextInt(1000000) : oneOf(ACCOUNTS);
            records.add(Records.entry(code, routing, account, amount, trace));
            trace += oneIn(60) ? 0 : 1 + random.nextInt(3);
            add(batch, code, routing, amount);
            add(file, code, routing, amount);
        }
        records.add(Records.batchControl(off(batch[0]), off(batch[1]), off(batch[2]), off(batch[3])));
    }

    private void add(int[] sums, int code, int routing, int amount) {
        sums[0]++;
        sums[1] += routing;
        sums[2] += code == 7 ? amount : 0;
        sums[3] += code == 2 ? amount : 0;
    }

    private void putAll() {
        for (int k = 0; k < records.size() && calls < CALLS; k++) {
            if (oneIn(300)) {
                k++;
            }
            if (oneIn(200)) {
                long odd = oneIn(2) ? -1 : random.nextLong();
                due("put(odd)", x.put(odd, 0), model.put(odd, 0));
            }
            if (oneIn(40)) {
                look(bank());
            }
            String record = records.get(Math.min(k, records.size() - 1));
            long high = Long.parseLong(record.substring(0, 18));
            long low = Long.parseLong(record.substring(18));
            due("put(" + high + ", " + low + ")", x.put(high, low), model.put(high, low));
        }
    }
}
