import java.util.ArrayList;
import java.util.Comparator;
import java.util.HashMap;
import java.util.HashSet;
import java.util.List;
import java.util.Map;
import java.util.Set;
import java.util.stream.Collectors;

/** The document once more, written in another way than the class: from texts, one list of entries, and streams. */
final class Model {
    private static final class Item {
        String record;
        int originator;
        int receiver;
        int day;
        int reason;
        int entryState;
        int returnState;
        String where = "waiting";

        int code() {
            return number(record, 1, 1);
        }

        int amount() {
            return number(record, 18, 24);
        }
    }

    private static final class View {
        final Item item;
        final boolean isReturn;

        View(Item item, boolean isReturn) {
            this.item = item;
            this.isReturn = isReturn;
        }

        int state() {
            return isReturn ? item.returnState : item.entryState;
        }
    }

    private final List<Integer> routings = new ArrayList<>();
    private final Map<String, Long> balances = new HashMap<>();
    private final Set<String> shut = new HashSet<>();
    private final Set<String> accepted = new HashSet<>();
    private final List<Item> entries = new ArrayList<>();
    private final List<Item> returns = new ArrayList<>();
    private final Map<Integer, List<View>> outputs = new HashMap<>();
    private final Map<Integer, Long> ledger = new HashMap<>();
    private final Map<Integer, Integer> refused = new HashMap<>();
    private List<String> file = new ArrayList<>();
    private int today = 0;

    private static int number(String text, int first, int last) {
        return Integer.parseInt(text.substring(first, last + 1));
    }

    private static boolean right(int number, int digits) {
        String text = String.format("%0" + digits + "d", number);
        int sum = 0;
        for (int k = 0; k < digits; k++) {
            sum += (text.charAt(k) - '0') * "371".repeat(2).chars().map(c -> c - '0').toArray()[k];
        }
        return sum % 10 == 0;
    }

    private boolean bank(int bank) {
        return bank >= 0 && bank < routings.size();
    }

    int join(int routing) {
        if (routing < 0 || routing > 9999 || !right(routing, 4) || routings.contains(routing)) {
            return -1;
        }
        if (routings.size() == 5) {
            return -3;
        }
        routings.add(routing);
        return routings.size() - 1;
    }

    boolean open(int bank, int account, int balance) {
        String key = bank + "/" + account;
        if (!bank(bank) || account < 0 || account > 999999 || !right(account, 6) || balance < 0
                || balance > 1000000 || balances.containsKey(key) || balances.size() == 12) {
            return false;
        }
        balances.put(key, (long) balance);
        return true;
    }

    boolean shut(int bank, int account) {
        String key = bank + "/" + account;
        return balances.containsKey(key) && shut.add(key);
    }

    int day() {
        return ++today;
    }

    int put(long high, long low) {
        if (high < 0 || low < 0 || high > 999999999999999999L || low > 999999999999999999L) {
            return -1;
        }
        String record = String.format("%018d%018d", high, low);
        String types = file.stream().map(r -> r.substring(0, 1)).collect(Collectors.joining()) + record.charAt(0);
        if (!types.matches("1(56*8)*(56*|9)?")) {
            file = new ArrayList<>();
            return -2;
        }
        if (types.replaceAll("[^5]", "").length() > 4 || types.replaceAll("[^6]", "").length() > 20) {
            file = new ArrayList<>();
            return -3;
        }
        file.add(record);
        if (record.charAt(0) != '9') {
            return 0;
        }
        List<String> ended = file;
        file = new ArrayList<>();
        return end(ended);
    }

    private int end(List<String> records) {
        String header = records.get(0);
        String control = records.get(records.size() - 1);
        if (!routings.contains(number(header, 1, 4))) {
            return refuse(10);
        }
        if (accepted.contains(header.substring(1, 9))) {
            return refuse(11);
        }
        List<String> all = records.stream().filter(r -> r.startsWith("6")).collect(Collectors.toList());
        long batches = records.stream().filter(r -> r.startsWith("5")).count();
        if (number(control, 1, 4) != batches || !holds(all, control, 5)) {
            return refuse(12);
        }
        List<Integer> reasons = new ArrayList<>();
        List<Item> good = judge(records, reasons);
        if (entries.stream().filter(e -> e.where.equals("waiting")).count() + good.size() > 40) {
            return refuse(13);
        }
        reasons.forEach(this::refuse);
        accepted.add(header.substring(1, 9));
        entries.addAll(good);
        return good.size();
    }

    private static boolean holds(List<String> all, String control, int from) {
        return number(control, from, from + 3) == all.size()
                && number(control, from + 4, from + 9) == all.stream().mapToInt(r -> number(r, 2, 5)).sum()
                && number(control, 18, 26) == sum(all, '7') && number(control, 27, 35) == sum(all, '2');
    }

    private static int sum(List<String> all, char code) {
        return all.stream().filter(r -> r.charAt(1) == code).mapToInt(r -> number(r, 18, 24)).sum();
    }

    private List<Item> judge(List<String> records, List<Integer> reasons) {
        List<Item> good = new ArrayList<>();
        String before = null;
        for (int start = 0; start < records.size(); start++) {
            if (!records.get(start).startsWith("5")) {
                continue;
            }
            String batch = records.get(start);
            int end = start + 1;
            while (records.get(end).startsWith("6")) {
                end++;
            }
            List<String> own = records.subList(start + 1, end);
            int reason = batchReason(batch, before, own, records.get(end));
            before = batch;
            if (reason != 0) {
                reasons.add(reason);
                continue;
            }
            for (String record : own) {
                int why = entryReason(record);
                if (why != 0) {
                    reasons.add(why);
                } else {
                    Item item = new Item();
                    item.record = record;
                    item.originator = routings.indexOf(number(batch, 1, 4));
                    item.receiver = routings.indexOf(number(record, 2, 5));
                    item.day = number(batch, 9, 12);
                    good.add(item);
                }
            }
        }
        return good;
    }

    private int batchReason(String batch, String before, List<String> own, String control) {
        if (!routings.contains(number(batch, 1, 4))) {
            return 20;
        }
        if (before != null && number(batch, 5, 8) <= number(before, 5, 8)) {
            return 21;
        }
        if (number(batch, 9, 12) < today) {
            return 22;
        }
        if (!holds(own, control, 1)) {
            return 23;
        }
        for (int k = 1; k < own.size(); k++) {
            if (number(own.get(k), 25, 31) <= number(own.get(k - 1), 25, 31)) {
                return 24;
            }
        }
        return 0;
    }

    private int entryReason(String record) {
        int routing = number(record, 2, 5);
        if (!right(routing, 4)) {
            return 30;
        }
        if (!routings.contains(routing)) {
            return 31;
        }
        if (record.charAt(1) != '2' && record.charAt(1) != '7') {
            return 32;
        }
        return number(record, 18, 24) == 0 ? 33 : 0;
    }

    private int refuse(int reason) {
        refused.merge(reason, 1, Integer::sum);
        return -reason;
    }

    private List<View> output(int bank) {
        return outputs.getOrDefault(bank, List.of());
    }

    int window(int bank) {
        if (!bank(bank)) {
            return -1;
        }
        if (output(bank).stream().anyMatch(v -> v.state() == 0)) {
            return -4;
        }
        List<View> output = new ArrayList<>();
        for (Item item : waitingReturns(bank)) {
            output.add(new View(item, true));
            item.where = "returned";
            give(item, -1);
        }
        List<Item> due = waitingEntries(bank).stream().filter(e -> e.day <= today)
                .sorted(Comparator.comparingInt((Item e) -> e.day).thenComparingInt(e -> e.originator))
                .collect(Collectors.toList());
        for (Item item : due) {
            output.add(new View(item, false));
            item.where = "handed out";
            give(item, 1);
        }
        outputs.put(bank, output);
        return output.size();
    }

    private void give(Item item, int sign) {
        long gain = (long) sign * (item.code() == 2 ? item.amount() : -item.amount());
        ledger.merge(item.receiver, gain, Long::sum);
        ledger.merge(item.originator, -gain, Long::sum);
    }

    private List<Item> waitingReturns(int bank) {
        return returns.stream().filter(e -> e.where.equals("sent back") && e.originator == bank)
                .collect(Collectors.toList());
    }

    private List<Item> waitingEntries(int bank) {
        return entries.stream().filter(e -> e.where.equals("waiting") && e.receiver == bank)
                .collect(Collectors.toList());
    }

    int post(int bank, int n) {
        if (!bank(bank) || n < 1 || n > 40) {
            return -1;
        }
        List<View> first = output(bank).stream().filter(v -> v.state() == 0).limit(n).collect(Collectors.toList());
        int posted = 0;
        for (View view : first) {
            if (view.isReturn) {
                view.item.returnState = 1;
            } else {
                posted += post(view.item);
            }
        }
        return posted;
    }

    private int post(Item item) {
        int account = number(item.record, 6, 11);
        String key = item.receiver + "/" + account;
        long change = item.code() == 2 ? item.amount() : -item.amount();
        if (!right(account, 6)) {
            item.reason = 4;
        } else if (!balances.containsKey(key)) {
            item.reason = 3;
        } else if (shut.contains(key)) {
            item.reason = 2;
        } else if (balances.get(key) + change < 0) {
            item.reason = 1;
        } else {
            balances.merge(key, change, Long::sum);
            item.entryState = 1;
            return 1;
        }
        refuse(item.reason);
        item.entryState = 2;
        item.where = "sent back";
        returns.add(item);
        return 0;
    }

    int items(int bank) {
        return bank(bank) ? output(bank).size() : -1;
    }

    int item(int bank, int k, int which) {
        if (!bank(bank) || k < 0 || k >= output(bank).size() || which < 0 || which > 6) {
            return -1;
        }
        View view = output(bank).get(k);
        Item item = view.item;
        int[] says = {item.code(), view.isReturn ? item.receiver : item.originator, number(item.record, 6, 11),
            item.amount(), number(item.record, 25, 31), view.isReturn ? item.reason : 0, view.state()};
        return says[which];
    }

    long control(int bank, int which) {
        if (!bank(bank) || which < 0 || which > 3) {
            return -1;
        }
        List<View> output = output(bank);
        switch (which) {
            case 0:
                return output.size();
            case 1:
                return output.stream().mapToLong(v -> routings.get(v.item.receiver)).sum();
            case 2:
                return output.stream().filter(v -> v.item.code() == 7).mapToLong(v -> v.item.amount()).sum();
            default:
                return output.stream().filter(v -> v.item.code() == 2).mapToLong(v -> v.item.amount()).sum();
        }
    }

    long balance(int bank, int account) {
        return balances.getOrDefault(bank + "/" + account, -1L);
    }

    long ledger(int bank) {
        return ledger.getOrDefault(bank, 0L);
    }

    int rejected(int reason) {
        return refused.getOrDefault(reason, 0);
    }

    int waiting(int bank, int which) {
        if (!bank(bank) || which < 0 || which > 1) {
            return -1;
        }
        return which == 0 ? waitingEntries(bank).size() : waitingReturns(bank).size();
    }
}
