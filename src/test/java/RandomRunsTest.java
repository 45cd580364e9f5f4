import java.math.BigInteger;
import java.util.Arrays;
import java.util.NoSuchElementException;
import java.util.Random;

/**
 * Runs of calls drawn from fixed seeds, each answer held against a plain model over BigInteger; after each call every
 * register is held against it too, and out after each write.
 */
public final class RandomRunsTest {
    private static final String ARGUMENT = "IllegalArgumentException";
    private static final String STATE = "IllegalStateException";
    private static final int[] SIZES = {70, 300, 2000, 9000, 60000, 200000};

    private final Random random;
    private final int size;
    private final LimbWorks works = new LimbWorks();
    private final BigInteger[] numbers = new BigInteger[10];
    private final StringBuilder tape = new StringBuilder();
    private String out = "";

    private RandomRunsTest(long seed, int size) {
        random = new Random(seed);
        this.size = size;
        Arrays.fill(numbers, BigInteger.ZERO);
    }

    public static void main(String[] args) {
        int runs = args.length > 0 ? Integer.parseInt(args[0]) : 72;
        int first = args.length > 1 ? Integer.parseInt(args[1]) : 0;
        for (int run = first; run < first + runs; run++) {
            new RandomRunsTest(run, SIZES[run % SIZES.length]).run(run);
        }
        Checks.finish("RandomRunsTest");
    }

    private void run(int run) {
        int calls = size > 10000 ? 60 : 250;
        for (int call = 0; call < calls; call++) {
            String name = "run " + run + " call " + call + " " + step();
            for (int r = 0; r < 10; r++) {
                Checks.same(name + " leaves register " + r, numbers[r], Numbers.value(works, r));
            }
        }
    }

    private String step() {
        int kind = random.nextInt(24);
        if (kind < 7) {
            return plant();
        }
        switch (kind) {
            case 7:
                return set();
            case 8:
                return copy();
            case 9:
                return shift();
            case 10:
                return add();
            case 11:
                return subtract();
            case 12:
            case 13:
                return times();
            case 14:
            case 15:
            case 16:
                return divide();
            case 17:
                return power();
            case 18:
                return root();
            case 19:
                return compare();
            case 20:
                return feedAndEnd();
            case 21:
                return read();
            default:
                return write();
        }
    }

    /** A register, now and then one that there is not. */
    private int register() {
        if (random.nextInt(80) == 0) {
            return random.nextBoolean() ? -1 - random.nextInt(2) : 10 + random.nextInt(2);
        }
        return random.nextInt(10);
    }

    private static boolean missing(int... registers) {
        for (int r : registers) {
            if (r < 0 || r > 9) {
                return true;
            }
        }
        return false;
    }

    private String plant() {
        int r = random.nextInt(10);
        int helper = (r + 1 + random.nextInt(9)) % 10;
        BigInteger x = Numbers.draw(random, size);
        Numbers.plant(works, r, helper, x);
        tape.setLength(0);
        numbers[r] = x;
        numbers[helper] = Numbers.value(works, helper);
        return "plant(" + r + ")";
    }

    /** Holds a call that answers the bits of what comes to a register against its due outcome, and keeps it. */
    private String settle(String name, int register, String refused, BigInteger result, Checks.Call call) {
        if (refused != null) {
            Checks.same(name, refused, Checks.outcome(call));
        } else {
            Checks.same(name, Long.toString(result.bitLength()), Checks.outcome(call));
            numbers[register] = result;
        }
        return name;
    }

    private static String tooLong(int bits) {
        return bits > Numbers.MOST_BITS ? STATE : null;
    }

    private String set() {
        int r = register();
        long value = random.nextLong() >>> random.nextInt(64);
        String refused = missing(r) ? ARGUMENT : null;
        BigInteger due = new BigInteger(Long.toUnsignedString(value));
        return settle("set(" + r + ", " + value + ")", r, refused, due, () -> works.set(r, value));
    }

    private String copy() {
        int r = register();
        int a = register();
        String refused = missing(r, a) ? ARGUMENT : null;
        return settle("copy(" + r + ", " + a + ")", r, refused, refused == null ? numbers[a] : null,
                () -> works.copy(r, a));
    }

    private String shift() {
        int r = register();
        int a = register();
        int n = random.nextInt(20) == 0 ? random.nextInt(400040) - 200020 : random.nextInt(2 * size + 1) - size;
        String name = "shift(" + r + ", " + a + ", " + n + ")";
        if (missing(r, a) || Math.abs(n) > 200000) {
            return settle(name, r, ARGUMENT, null, () -> works.shift(r, a, n));
        }
        BigInteger due = numbers[a].shiftLeft(n);
        return settle(name, r, tooLong(due.bitLength()), due, () -> works.shift(r, a, n));
    }

    private String add() {
        int r = register();
        int a = register();
        int b = register();
        String name = "add(" + r + ", " + a + ", " + b + ")";
        if (missing(r, a, b)) {
            return settle(name, r, ARGUMENT, null, () -> works.add(r, a, b));
        }
        BigInteger due = numbers[a].add(numbers[b]);
        return settle(name, r, tooLong(due.bitLength()), due, () -> works.add(r, a, b));
    }

    private String subtract() {
        int r = register();
        int a = register();
        int b = register();
        String name = "subtract(" + r + ", " + a + ", " + b + ")";
        if (missing(r, a, b)) {
            return settle(name, r, ARGUMENT, null, () -> works.subtract(r, a, b));
        }
        BigInteger due = numbers[a].subtract(numbers[b]);
        return settle(name, r, due.signum() < 0 ? "ArithmeticException" : null, due, () -> works.subtract(r, a, b));
    }

    private String times() {
        int r = register();
        int a = register();
        int b = random.nextInt(4) == 0 ? a : register();
        String name = "times(" + r + ", " + a + ", " + b + ")";
        if (missing(r, a, b)) {
            return settle(name, r, ARGUMENT, null, () -> works.times(r, a, b));
        }
        String refused = tooLong(numbers[a].bitLength() + numbers[b].bitLength());
        BigInteger due = refused == null ? numbers[a].multiply(numbers[b]) : null;
        return settle(name, r, refused, due, () -> works.times(r, a, b));
    }

    private String divide() {
        int q = register();
        int r = random.nextInt(6) == 0 ? q : register();
        int a = register();
        int b = register();
        String name = "divide(" + q + ", " + r + ", " + a + ", " + b + ")";
        if (missing(q, r, a, b)) {
            return settle(name, q, ARGUMENT, null, () -> works.divide(q, r, a, b));
        }
        if (numbers[b].signum() == 0) {
            return settle(name, q, "ArithmeticException", null, () -> works.divide(q, r, a, b));
        }
        BigInteger[] due = numbers[a].divideAndRemainder(numbers[b]);
        settle(name, q, null, due[0], () -> works.divide(q, r, a, b));
        numbers[r] = due[1];
        return name;
    }

    private String power() {
        int r = register();
        int a = register();
        int n = random.nextInt(12) == 0 ? random.nextInt(104) - 2 : random.nextInt(12);
        String name = "power(" + r + ", " + a + ", " + n + ")";
        if (missing(r, a) || n < 0 || n > 100) {
            return settle(name, r, ARGUMENT, null, () -> works.power(r, a, n));
        }
        String refused = tooLong(n * numbers[a].bitLength());
        BigInteger due = refused == null ? numbers[a].pow(n) : null;
        return settle(name, r, refused, due, () -> works.power(r, a, n));
    }

    private String root() {
        int r = register();
        int a = register();
        int n = random.nextInt(3) == 0 ? 2 : random.nextInt(44) - 1;
        String name = "root(" + r + ", " + a + ", " + n + ")";
        if (missing(r, a) || n < 1 || n > 40) {
            return settle(name, r, ARGUMENT, null, () -> works.root(r, a, n));
        }
        return settle(name, r, null, Numbers.root(numbers[a], n), () -> works.root(r, a, n));
    }

    private String compare() {
        int a = register();
        int b = register();
        String name = "compare(" + a + ", " + b + ")";
        String due = missing(a, b) ? ARGUMENT : Integer.toString(numbers[a].compareTo(numbers[b]));
        Checks.same(name, due, Checks.outcome(() -> works.compare(a, b)));
        return name;
    }

    private String feedAndEnd() {
        int feeds = random.nextInt(20) == 0 ? 210 : random.nextInt(30);
        for (int i = 0; i < feeds; i++) {
            feedDigits();
        }
        int n = tape.length() + 3 - random.nextInt(20);
        String due = n < 0 || n > tape.length() ? ARGUMENT : Integer.toString(tape.length() - n);
        Checks.same("end(" + n + ")", due, Checks.outcome(() -> works.end(n)));
        if (n >= 0 && n <= tape.length()) {
            tape.setLength(n);
        }
        return "end(" + n + ")";
    }

    private void feedDigits() {
        String digits = "0123456789abcdefghijklmnopqrstuvwxyzABCDEFGHIJKLMNOPQRSTUVWXYZ";
        int[] five = new int[5];
        StringBuilder more = new StringBuilder();
        for (int i = 0; i < 20; i++) {
            char c = random.nextInt(20000) == 0 ? (char) random.nextInt(256)
                    : digits.charAt(random.nextInt(digits.length()));
            more.append(c);
            five[i / 4] = five[i / 4] << 8 | c;
        }
        boolean full = tape.length() + 20 > 4096;
        Checks.same("feed", full ? STATE : "0", Checks.outcome(() -> {
            works.feed(five[0], five[1], five[2], five[3], five[4]);
            return 0;
        }));
        if (!full) {
            tape.append(more);
        }
    }

    private String read() {
        int r = register();
        int base = random.nextInt(2) == 0 ? 36 : random.nextInt(38) + 1;
        String name = "read(" + r + ", " + base + ")";
        if (missing(r) || base < 2 || base > 36) {
            return settle(name, r, ARGUMENT, null, () -> works.read(r, base));
        }
        String text = tape.toString();
        tape.setLength(0);
        for (int i = 0; i < text.length(); i++) {
            if (text.charAt(i) > 127 || Character.digit(text.charAt(i), base) < 0) {
                return settle(name, r, "UnsupportedOperationException", null, () -> works.read(r, base));
            }
        }
        BigInteger due = text.isEmpty() ? BigInteger.ZERO : new BigInteger(text, base);
        return settle(name, r, null, due, () -> works.read(r, base));
    }

    private String write() {
        int a = register();
        int base = random.nextInt(38) + 1;
        String name = "write(" + a + ", " + base + ")";
        if (missing(a) || base < 2 || base > 36) {
            Checks.same(name, ARGUMENT, Checks.outcome(() -> works.write(a, base)));
        } else {
            String text = numbers[a].toString(base);
            boolean tooMany = text.length() > 20000;
            Checks.same(name, tooMany ? STATE : Integer.toString(text.length()),
                    Checks.outcome(() -> works.write(a, base)));
            if (!tooMany) {
                out = text;
            }
        }
        Checks.same(name + " leaves out", out, Numbers.outText(works, out.length()));
        Checks.thrown(name + " leaves no more", NoSuchElementException.class, () -> works.octet(out.length()));
        return name;
    }
}
