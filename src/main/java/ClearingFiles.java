import java.util.ArrayList;

/** A clearing house for files of payment entries; the document DOC.md says what each call promises. */
public final class ClearingFiles {
    public static final int BAD = -1;
    public static final int ORDER = -2;
    public static final int FULL = -3;
    public static final int OPEN = -4;

    private static final int MOST_CALLS = 512;
    private static final int MOST_BANKS = 5;
    private static final int MOST_ACCOUNTS = 12;
    private static final int MOST_BATCHES = 4;
    private static final int MOST_ENTRIES = 20;
    private static final int MOST_WAITING = 40;
    private static final int MOST_POSTED_AT_ONCE = 40;
    private static final int GREATEST_FIRST_BALANCE = 1000000;

    private static final int[] WEIGHTS = {3, 7, 1};
    private static final int ROUTING_DIGITS = 4;
    private static final int GREATEST_ROUTING = 9999;
    private static final int ACCOUNT_DIGITS = 6;
    private static final int GREATEST_ACCOUNT = 999999;
    private static final int FILE_NUMBERS = 10000;
    private static final int HALF_DIGITS = 18;
    private static final long GREATEST_HALF = 999999999999999999L;

    private static final int FILE_HEADER = 1;
    private static final int BATCH_HEADER = 5;
    private static final int ENTRY = 6;
    private static final int BATCH_CONTROL = 8;
    private static final int FILE_CONTROL = 9;

    private static final int CREDIT = 2;
    private static final int DEBIT = 7;

    private static final int NO_FUNDS = 1;
    private static final int ACCOUNT_SHUT = 2;
    private static final int NO_ACCOUNT = 3;
    private static final int ACCOUNT_NOT_RIGHT = 4;
    private static final int SENDER_UNKNOWN = 10;
    private static final int FILE_AGAIN = 11;
    private static final int FILE_CONTROL_WRONG = 12;
    private static final int TOO_MANY_WAITING = 13;
    private static final int ORIGINATOR_UNKNOWN = 20;
    private static final int BATCH_NUMBER_NOT_GREATER = 21;
    private static final int DAY_PAST = 22;
    private static final int BATCH_CONTROL_WRONG = 23;
    private static final int TRACE_NOT_GREATER = 24;
    private static final int RECEIVER_NOT_RIGHT = 30;
    private static final int RECEIVER_UNKNOWN = 31;
    private static final int CODE_UNKNOWN = 32;
    private static final int AMOUNT_ZERO = 33;

    private final ArrayList<Bank> banks = new ArrayList<>();
    private final ArrayList<Account> accounts = new ArrayList<>();
    private final Incoming file = new Incoming();
    // A file takes two calls at least, so half the calls bound the accepted ones.
    private final int[] acceptedFiles = new int[MOST_CALLS / 2];
    private int acceptedCount = 0;
    private final int[] refusals = new int[AMOUNT_ZERO + 1];
    private int today = 0;

    public ClearingFiles() {
    }

    public int join(int routing) {
        if (routing < 0 || routing > GREATEST_ROUTING || !isRight(routing, ROUTING_DIGITS)) {
            return BAD;
        }
        if (bankWithRouting(routing) != null) {
            return BAD;
        }
        if (banks.size() >= MOST_BANKS) {
            return FULL;
        }
        int number = banks.size();
        banks.add(new Bank(number, routing));
        return number;
    }

    public boolean open(int bank, int account, int balance) {
        Bank holder = bankAt(bank);
        if (holder == null || account < 0 || account > GREATEST_ACCOUNT) {
            return false;
        }
        if (!isRight(account, ACCOUNT_DIGITS) || balance < 0 || balance > GREATEST_FIRST_BALANCE) {
            return false;
        }
        if (accountOf(holder, account) != null || accounts.size() >= MOST_ACCOUNTS) {
            return false;
        }
        accounts.add(new Account(holder, account, balance));
        return true;
    }

    public boolean shut(int bank, int account) {
        Account found = accountOf(bankAt(bank), account);
        if (found == null || found.isShut) {
            return false;
        }
        found.isShut = true;
        return true;
    }

    public int day() {
        today++;
        return today;
    }

    public int put(long high, long low) {
        if (!isHalf(high) || !isHalf(low)) {
            return BAD;
        }
        int type = digits(high, low, 0, 0);
        if (!file.allows(type)) {
            file.end();
            return ORDER;
        }
        switch (type) {
            case FILE_HEADER:
                file.begin(digits(high, low, 1, 4), digits(high, low, 5, 8));
                return 0;
            case BATCH_HEADER:
                return beginBatch(high, low);
            case ENTRY:
                return addEntry(high, low);
            case BATCH_CONTROL:
                endBatch(high, low);
                return 0;
            default:
                return endFile(high, low);
        }
    }

    public int window(int bank) {
        Bank receiver = bankAt(bank);
        if (receiver == null) {
            return BAD;
        }
        if (!receiver.output.isDone()) {
            return OPEN;
        }
        receiver.output.clear();
        handOutReturns(receiver);
        handOutEntries(receiver);
        return receiver.output.size();
    }

    public int post(int bank, int n) {
        Bank receiver = bankAt(bank);
        if (receiver == null || n < 1 || n > MOST_POSTED_AT_ONCE) {
            return BAD;
        }
        Output output = receiver.output;
        int end = Math.min(output.done + n, output.size());
        int posted = 0;
        for (int k = output.done; k < end; k++) {
            if (!output.isReturn(k) && postOrSendBack(output.entries.get(k))) {
                posted++;
            }
        }
        output.done = end;
        return posted;
    }

    public int items(int bank) {
        Bank receiver = bankAt(bank);
        return receiver == null ? BAD : receiver.output.size();
    }

    public int item(int bank, int k, int which) {
        Bank receiver = bankAt(bank);
        if (receiver == null || k < 0 || k >= receiver.output.size()) {
            return BAD;
        }
        Entry entry = receiver.output.entries.get(k);
        boolean isReturn = receiver.output.isReturn(k);
        switch (which) {
            case 0:
                return entry.code;
            case 1:
                return isReturn ? entry.receiver.number : entry.originator.number;
            case 2:
                return entry.account;
            case 3:
                return entry.amount;
            case 4:
                return entry.trace;
            case 5:
                return isReturn ? entry.reason : 0;
            case 6:
                return receiver.output.stateOf(k);
            default:
                return BAD;
        }
    }

    public long control(int bank, int which) {
        Bank receiver = bankAt(bank);
        if (receiver == null) {
            return BAD;
        }
        Totals totals = receiver.output.totals;
        switch (which) {
            case 0:
                return totals.count;
            case 1:
                return totals.hash;
            case 2:
                return totals.debits;
            case 3:
                return totals.credits;
            default:
                return BAD;
        }
    }

    public long balance(int bank, int account) {
        Account found = accountOf(bankAt(bank), account);
        return found == null ? BAD : found.balance;
    }

    public long ledger(int bank) {
        Bank found = bankAt(bank);
        return found == null ? 0 : found.ledger;
    }

    public int rejected(int reason) {
        return reason < 0 || reason >= refusals.length ? 0 : refusals[reason];
    }

    public int waiting(int bank, int which) {
        Bank receiver = bankAt(bank);
        if (receiver == null || which < 0 || which > 1) {
            return BAD;
        }
        return which == 0 ? receiver.entries.size() : receiver.returns.size();
    }

    private static boolean isHalf(long digits) {
        return digits >= 0 && digits <= GREATEST_HALF;
    }

    /** The number in the digits first to last of a record; no field of a record stands in both halves. */
    private static int digits(long high, long low, int first, int last) {
        boolean inHigh = last < HALF_DIGITS;
        long rest = inHigh ? high : low;
        for (int k = inHigh ? HALF_DIGITS - 1 : 2 * HALF_DIGITS - 1; k > last; k--) {
            rest /= 10;
        }
        long number = 0;
        long worth = 1;
        for (int k = last; k >= first; k--) {
            number += rest % 10 * worth;
            worth *= 10;
            rest /= 10;
        }
        return (int) number;
    }

    private static boolean isRight(int number, int digits) {
        int rest = number;
        int sum = 0;
        for (int place = digits - 1; place >= 0; place--) {
            sum += rest % 10 * WEIGHTS[place % 3];
            rest /= 10;
        }
        return sum % 10 == 0;
    }

    private Bank bankAt(int number) {
        return number < 0 || number >= banks.size() ? null : banks.get(number);
    }

    private Bank bankWithRouting(int routing) {
        for (int k = 0; k < banks.size(); k++) {
            if (banks.get(k).routing == routing) {
                return banks.get(k);
            }
        }
        return null;
    }

    private Account accountOf(Bank bank, int number) {
        for (int k = 0; k < accounts.size(); k++) {
            Account account = accounts.get(k);
            if (account.bank == bank && account.number == number) {
                return account;
            }
        }
        return null;
    }

    private int beginBatch(long high, long low) {
        if (file.batchCount >= MOST_BATCHES) {
            file.end();
            return FULL;
        }
        Batch batch = file.batches[file.batchCount];
        batch.begin(digits(high, low, 1, 4), digits(high, low, 5, 8), digits(high, low, 9, 12));
        file.batchCount++;
        file.current = batch;
        file.inBatch = true;
        return 0;
    }

    private int addEntry(long high, long low) {
        if (file.totals.count >= MOST_ENTRIES) {
            file.end();
            return FULL;
        }
        Entry entry = new Entry();
        entry.code = digits(high, low, 1, 1);
        entry.routing = digits(high, low, 2, 5);
        entry.account = digits(high, low, 6, 11);
        entry.amount = digits(high, low, 18, 24);
        entry.trace = digits(high, low, 25, 31);
        file.current.add(entry);
        file.totals.add(entry);
        return 0;
    }

    private void endBatch(long high, long low) {
        Batch batch = file.current;
        batch.controlHolds = batch.totals.are(digits(high, low, 1, 4), digits(high, low, 5, 10),
                digits(high, low, 18, 26), digits(high, low, 27, 35));
        file.inBatch = false;
    }

    private int endFile(long high, long low) {
        file.end();
        int reason = reasonAgainstFile(high, low);
        if (reason != 0) {
            countRefusal(reason);
            return -reason;
        }
        keepAsAccepted(fileKey());
        return acceptBatches();
    }

    private int reasonAgainstFile(long high, long low) {
        if (bankWithRouting(file.sender) == null) {
            return SENDER_UNKNOWN;
        }
        if (wasAccepted(fileKey())) {
            return FILE_AGAIN;
        }
        if (file.batchCount != digits(high, low, 1, 4)) {
            return FILE_CONTROL_WRONG;
        }
        if (!file.totals.are(digits(high, low, 5, 8), digits(high, low, 9, 14),
                digits(high, low, 18, 26), digits(high, low, 27, 35))) {
            return FILE_CONTROL_WRONG;
        }
        return waitingInAll() + judgeBatches() > MOST_WAITING ? TOO_MANY_WAITING : 0;
    }

    /** One number for a sender and its file's number: no two banks have the same routing. */
    private int fileKey() {
        return file.sender * FILE_NUMBERS + file.number;
    }

    private boolean wasAccepted(int key) {
        for (int k = 0; k < acceptedCount; k++) {
            if (acceptedFiles[k] == key) {
                return true;
            }
        }
        return false;
    }

    private void keepAsAccepted(int key) {
        if (acceptedCount < acceptedFiles.length) {
            acceptedFiles[acceptedCount] = key;
            acceptedCount++;
        }
    }

    private int waitingInAll() {
        int sum = 0;
        for (int k = 0; k < banks.size(); k++) {
            sum += banks.get(k).entries.size();
        }
        return sum;
    }

    /** Gives each batch and entry its reason and answers how many entries would wait; counts nothing yet,
     * for the file may still be rejected by that very number. */
    private int judgeBatches() {
        int good = 0;
        int numberBefore = -1;
        for (int k = 0; k < file.batchCount; k++) {
            Batch batch = file.batches[k];
            batch.reason = reasonAgainstBatch(batch, numberBefore);
            if (batch.reason == 0) {
                good += judgeEntries(batch);
            }
            numberBefore = batch.number;
        }
        return good;
    }

    private int reasonAgainstBatch(Batch batch, int numberBefore) {
        if (bankWithRouting(batch.originator) == null) {
            return ORIGINATOR_UNKNOWN;
        }
        if (batch.number <= numberBefore) {
            return BATCH_NUMBER_NOT_GREATER;
        }
        if (batch.day < today) {
            return DAY_PAST;
        }
        if (!batch.controlHolds) {
            return BATCH_CONTROL_WRONG;
        }
        return batch.tracesGrow ? 0 : TRACE_NOT_GREATER;
    }

    private int judgeEntries(Batch batch) {
        int good = 0;
        for (int k = 0; k < batch.entries.size(); k++) {
            Entry entry = batch.entries.get(k);
            entry.day = batch.day;
            entry.originator = bankWithRouting(batch.originator);
            entry.receiver = bankWithRouting(entry.routing);
            entry.reason = reasonAgainstEntry(entry);
            if (entry.reason == 0) {
                good++;
            }
        }
        return good;
    }

    private static int reasonAgainstEntry(Entry entry) {
        if (!isRight(entry.routing, ROUTING_DIGITS)) {
            return RECEIVER_NOT_RIGHT;
        }
        if (entry.receiver == null) {
            return RECEIVER_UNKNOWN;
        }
        if (entry.code != CREDIT && entry.code != DEBIT) {
            return CODE_UNKNOWN;
        }
        return entry.amount == 0 ? AMOUNT_ZERO : 0;
    }

    private int acceptBatches() {
        int good = 0;
        for (int k = 0; k < file.batchCount; k++) {
            Batch batch = file.batches[k];
            if (batch.reason != 0) {
                countRefusal(batch.reason);
            } else {
                good += acceptEntries(batch);
            }
        }
        return good;
    }

    private int acceptEntries(Batch batch) {
        int good = 0;
        for (int k = 0; k < batch.entries.size(); k++) {
            Entry entry = batch.entries.get(k);
            if (entry.reason != 0) {
                countRefusal(entry.reason);
            } else if (entry.receiver != null) {
                entry.receiver.entries.add(entry);
                good++;
            }
        }
        return good;
    }

    private void countRefusal(int reason) {
        if (reason >= 0 && reason < refusals.length) {
            refusals[reason]++;
        }
    }

    private static void handOutReturns(Bank bank) {
        for (int k = 0; k < bank.returns.size(); k++) {
            Entry entry = bank.returns.get(k);
            bank.output.addReturn(entry);
            settle(entry, true);
        }
        bank.returns.clear();
    }

    private void handOutEntries(Bank bank) {
        for (int k = 0; k < bank.entries.size(); k++) {
            Entry entry = bank.entries.get(k);
            if (entry.day <= today) {
                bank.output.addEntry(entry);
                settle(entry, false);
            }
        }
        for (int k = bank.entries.size() - 1; k >= 0; k--) {
            if (bank.entries.get(k).day <= today) {
                bank.entries.remove(k);
            }
        }
    }

    private static void settle(Entry entry, boolean isReturn) {
        boolean givesToReceiver = (entry.code == CREDIT) != isReturn;
        long gain = givesToReceiver ? entry.amount : -entry.amount;
        entry.receiver.ledger += gain;
        entry.originator.ledger -= gain;
    }

    private boolean postOrSendBack(Entry entry) {
        Account account = accountOf(entry.receiver, entry.account);
        entry.reason = reasonToSendBack(entry, account);
        if (entry.reason != 0 || account == null) {
            sendBack(entry);
            return false;
        }
        account.balance += entry.code == CREDIT ? entry.amount : -entry.amount;
        return true;
    }

    private static int reasonToSendBack(Entry entry, Account account) {
        if (!isRight(entry.account, ACCOUNT_DIGITS)) {
            return ACCOUNT_NOT_RIGHT;
        }
        if (account == null) {
            return NO_ACCOUNT;
        }
        if (account.isShut) {
            return ACCOUNT_SHUT;
        }
        return entry.code == DEBIT && account.balance < entry.amount ? NO_FUNDS : 0;
    }

    private void sendBack(Entry entry) {
        countRefusal(entry.reason);
        // Each return was put by a call of its own, so this bound is met only after the last promised call.
        if (entry.originator.returns.size() < MOST_CALLS) {
            entry.originator.returns.add(entry);
        }
    }

    private static final class Account {
        final Bank bank;
        final int number;
        long balance;
        boolean isShut;

        Account(Bank bank, int number, int balance) {
            this.bank = bank;
            this.number = number;
            this.balance = balance;
        }
    }

    private static final class Bank {
        final int number;
        final int routing;
        final ArrayList<Entry> entries = new ArrayList<>();
        final ArrayList<Entry> returns = new ArrayList<>();
        final Output output = new Output();
        long ledger;

        Bank(int number, int routing) {
            this.number = number;
            this.routing = routing;
        }
    }

    private static final class Entry {
        int code;
        int routing;
        int account;
        int amount;
        int trace;
        // Known from the end of its file on; an entry that waits has both banks.
        int day;
        Bank originator;
        Bank receiver;
        int reason;

        boolean goesBefore(Entry other) {
            if (day != other.day) {
                return day < other.day;
            }
            return originator.number < other.originator.number;
        }
    }

    private static final class Totals {
        long count;
        long hash;
        long debits;
        long credits;

        void clear() {
            count = 0;
            hash = 0;
            debits = 0;
            credits = 0;
        }

        void add(Entry entry) {
            count++;
            hash += entry.routing;
            if (entry.code == DEBIT) {
                debits += entry.amount;
            } else if (entry.code == CREDIT) {
                credits += entry.amount;
            }
        }

        boolean are(int count, int hash, int debits, int credits) {
            return this.count == count && this.hash == hash && this.debits == debits && this.credits == credits;
        }
    }

    private static final class Batch {
        final ArrayList<Entry> entries = new ArrayList<>();
        final Totals totals = new Totals();
        int originator;
        int number;
        int day;
        int lastTrace;
        boolean tracesGrow;
        boolean controlHolds;
        int reason;

        void begin(int originator, int number, int day) {
            this.originator = originator;
            this.number = number;
            this.day = day;
            entries.clear();
            totals.clear();
            lastTrace = -1;
            tracesGrow = true;
        }

        void add(Entry entry) {
            entries.add(entry);
            totals.add(entry);
            if (entry.trace <= lastTrace) {
                tracesGrow = false;
            }
            lastTrace = entry.trace;
        }
    }

    /** The file under way, or the one that has just ended; its rows serve every file. */
    private static final class Incoming {
        final Batch[] batches = new Batch[MOST_BATCHES];
        final Totals totals = new Totals();
        Batch current;
        int batchCount;
        int sender;
        int number;
        boolean underWay;
        boolean inBatch;

        Incoming() {
            for (int k = 0; k < batches.length; k++) {
                batches[k] = new Batch();
            }
            current = batches[0];
        }

        boolean allows(int type) {
            if (!underWay) {
                return type == FILE_HEADER;
            }
            if (inBatch) {
                return type == ENTRY || type == BATCH_CONTROL;
            }
            return type == BATCH_HEADER || type == FILE_CONTROL;
        }

        void begin(int sender, int number) {
            this.sender = sender;
            this.number = number;
            totals.clear();
            batchCount = 0;
            inBatch = false;
            underWay = true;
        }

        void end() {
            underWay = false;
        }
    }

    /** What a window handed out: the returns first, then the entries; the done ones are the first of them. */
    private static final class Output {
        final ArrayList<Entry> entries = new ArrayList<>();
        final Totals totals = new Totals();
        int returns;
        int done;

        void clear() {
            entries.clear();
            totals.clear();
            returns = 0;
            done = 0;
        }

        int size() {
            return entries.size();
        }

        boolean isDone() {
            return done >= entries.size();
        }

        boolean isReturn(int k) {
            return k < returns;
        }

        int stateOf(int k) {
            if (k >= done) {
                return 0;
            }
            return !isReturn(k) && entries.get(k).reason != 0 ? 2 : 1;
        }

        void addReturn(Entry entry) {
            entries.add(entry);
            totals.add(entry);
            returns++;
        }

        void addEntry(Entry entry) {
            int place = entries.size();
            while (place > returns && entry.goesBefore(entries.get(place - 1))) {
                place--;
            }
            entries.add(place, entry);
            totals.add(entry);
        }
    }
}
