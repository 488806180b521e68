import java.util.ArrayList;
import java.util.List;

/** A file with controls that say what is so; wrongControl() and wrongFileControl() make one of their numbers wrong. */
final class TestFile {
    private final List<String> records = new ArrayList<>();
    private final int[] inBatch = new int[4];
    private final int[] inFile = new int[5];

    TestFile(int sender, int number) {
        records.add(Records.header(sender, number));
    }

    TestFile batch(int originator, int number, int day) {
        records.add(Records.batch(originator, number, day));
        inFile[0]++;
        inBatch[0] = 0;
        inBatch[1] = 0;
        inBatch[2] = 0;
        inBatch[3] = 0;
        return this;
    }

    TestFile entry(int code, int routing, int account, int amount, int trace) {
        records.add(Records.entry(code, routing, account, amount, trace));
        add(0, 1);
        add(1, routing);
        if (code == 7) {
            add(2, amount);
        }
        if (code == 2) {
            add(3, amount);
        }
        return this;
    }

    TestFile control() {
        return wrongControl(-1, 0);
    }

    /** The batch's control, its number with this index greater by this much than what is so. */
    TestFile wrongControl(int index, int by) {
        int[] says = inBatch.clone();
        if (index >= 0) {
            says[index] += by;
        }
        records.add(Records.batchControl(says[0], says[1], says[2], says[3]));
        return this;
    }

    int send(ClearingFiles x) {
        return sendWrong(x, -1, 0);
    }

    /** Puts every record; the file control's number with this index is greater by this much than what is so. */
    int sendWrong(ClearingFiles x, int index, int by) {
        for (int k = 0; k < records.size(); k++) {
            Check.due("record " + k + " of a file", Records.put(x, records.get(k)), 0);
        }
        int[] says = inFile.clone();
        if (index >= 0) {
            says[index] += by;
        }
        return Records.put(x, Records.fileControl(says[0], says[1], says[2], says[3], says[4]));
    }

    private void add(int index, int by) {
        inBatch[index] += by;
        inFile[index + 1] += by;
    }
}
