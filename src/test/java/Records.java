/** Writes records as rows of 36 digits. Digits that nobody looks at are written as nines, to show that nobody does. */
final class Records {
    private Records() {
    }

    static String header(int sender, int number) {
        return full("1" + four(sender) + four(number));
    }

    static String batch(int originator, int number, int day) {
        return full("5" + four(originator) + four(number) + four(day));
    }

    static String entry(int code, int routing, int account, int amount, int trace) {
        String front = half("6" + code + four(routing) + padded(account, 6));
        return full(front + padded(amount, 7) + padded(trace, 7));
    }

    static String batchControl(int entries, int hash, int debits, int credits) {
        String front = half("8" + four(entries) + padded(hash, 6));
        return front + padded(debits, 9) + padded(credits, 9);
    }

    static String fileControl(int batches, int entries, int hash, int debits, int credits) {
        String front = half("9" + four(batches) + four(entries) + padded(hash, 6));
        return front + padded(debits, 9) + padded(credits, 9);
    }

    static int put(ClearingFiles x, String record) {
        if (record.length() != 36) {
            throw new IllegalArgumentException(record);
        }
        return x.put(Long.parseLong(record.substring(0, 18)), Long.parseLong(record.substring(18)));
    }

    private static String four(int number) {
        return padded(number, 4);
    }

    private static String padded(int number, int digits) {
        String text = String.format("%0" + digits + "d", number);
        if (text.length() != digits) {
            throw new IllegalArgumentException(number + " in " + digits + " digits");
        }
        return text;
    }

    private static String half(String front) {
        return front + "9".repeat(18 - front.length());
    }

    private static String full(String front) {
        return front + "9".repeat(36 - front.length());
    }
}
