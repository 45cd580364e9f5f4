import java.math.BigInteger;
import java.util.NoSuchElementException;

/** Promises 14 to 18: feed, end, read, write, octet. */
public final class TapeTest {
    private static final Class<IllegalArgumentException> ARGUMENT = IllegalArgumentException.class;
    private static final Class<IllegalStateException> STATE = IllegalStateException.class;
    private static final Class<UnsupportedOperationException> UNSUPPORTED = UnsupportedOperationException.class;
    private static final Class<NoSuchElementException> NONE = NoSuchElementException.class;
    private static final int[] MISSING = {-1, 10, Integer.MIN_VALUE, Integer.MAX_VALUE};
    private static final int[] NO_BASES = {1, 0, -1, 37, Integer.MIN_VALUE, Integer.MAX_VALUE};
    private static final int NINES = 0x39393939;

    private TapeTest() {
    }

    public static void main(String[] args) {
        promise14Feed();
        promise15End();
        promise16Read();
        promise16ReadEveryByte();
        promise17Write();
        promise17WriteAtTheLimit();
        promise18Octet();
        Checks.finish("TapeTest");
    }

    private static void holds(String what, LimbWorks works, int register, BigInteger due) {
        Checks.same(what, due, Numbers.value(works, register));
    }

    private static void feedNines(LimbWorks works, int times) {
        for (int i = 0; i < times; i++) {
            works.feed(NINES, NINES, NINES, NINES, NINES);
        }
    }

    private static void promise14Feed() {
        LimbWorks works = new LimbWorks();
        Checks.done("feed", () -> works.feed(0x31323334, 0x35363738, 0x39303132, 0x33343536, 0x37383930));
        works.read(0, 10);
        holds("the highest of each comes first", works, 0, new BigInteger("12345678901234567890"));
        Checks.done("feed once", () -> works.feed(0x31313131, 0x31313131, 0x31313131, 0x31313131, 0x31313131));
        Checks.done("feed twice", () -> works.feed(0x32323232, 0x32323232, 0x32323232, 0x32323232, 0x32323232));
        works.read(0, 10);
        holds("later bytes come behind", works, 0, new BigInteger("1".repeat(20) + "2".repeat(20)));
        feedNines(works, 204);
        Checks.thrownBy("feed of more than 4096", STATE, () -> works.feed(NINES, NINES, NINES, NINES, NINES));
        Checks.due("a refused feed leaves the tape", 4, () -> works.end(4076));
        Checks.done("feed up to 4096", () -> works.feed(NINES, NINES, NINES, NINES, NINES));
        Checks.thrownBy("feed of a full tape", STATE, () -> works.feed(0, 0, 0, 0, 0));
        Checks.due("the full tape", BigInteger.TEN.pow(4096).subtract(BigInteger.ONE).bitLength(),
                () -> works.read(0, 10));
        holds("the full tape", works, 0, BigInteger.TEN.pow(4096).subtract(BigInteger.ONE));
        feedNines(works, 203);
        works.end(4057);
        feedNines(works, 1);
        works.end(4077);
        Checks.thrownBy("feed of one too many", STATE, () -> works.feed(NINES, NINES, NINES, NINES, NINES));
        Checks.due("feed leaves registers", 0, () -> works.bits(1));
    }

    private static void promise15End() {
        LimbWorks works = new LimbWorks();
        Checks.due("end of nothing", 0, () -> works.end(0));
        Checks.thrown("end beyond nothing", ARGUMENT, () -> works.end(1));
        works.feed(0x31323334, 0x35363738, 0x39303132, 0x33343536, 0x37383930);
        Checks.due("end of all", 0, () -> works.end(20));
        Checks.thrown("end beyond all", ARGUMENT, () -> works.end(21));
        Checks.thrown("end below 0", ARGUMENT, () -> works.end(-1));
        Checks.thrown("end far below 0", ARGUMENT, () -> works.end(Integer.MIN_VALUE));
        Checks.thrown("end far beyond", ARGUMENT, () -> works.end(Integer.MAX_VALUE));
        Checks.due("end after five", 15, () -> works.end(5));
        Checks.thrown("what went is gone", ARGUMENT, () -> works.end(6));
        works.read(0, 10);
        holds("the first ones stay", works, 0, BigInteger.valueOf(12345));
        works.feed(NINES, NINES, NINES, NINES, NINES);
        Checks.due("end at 0", 20, () -> works.end(0));
        works.set(0, 1);
        Checks.due("nothing is left", 0, () -> works.read(0, 10));
    }

    private static void promise16Read() {
        LimbWorks works = new LimbWorks();
        works.set(1, 5);
        Checks.due("read nothing", 0, () -> works.read(1, 7));
        String mixed = "00Zz9Aa1bB0000000000000000000000000000000000kKlL";
        Numbers.feedText(works, mixed);
        Checks.due("read", new BigInteger(mixed, 36).bitLength(), () -> works.read(1, 36));
        holds("small letters and others", works, 1, new BigInteger(mixed, 36));
        Checks.due("read empties the tape", 0, () -> works.end(0));
        Checks.thrown("read empties the tape", ARGUMENT, () -> works.end(1));
        for (int base = 2; base <= 36; base++) {
            String text = Character.forDigit(base - 1, base) + "0" + "1".repeat(base)
                    + BigInteger.TEN.pow(300).toString(base);
            int b = base;
            Numbers.feedText(works, text);
            Checks.due("read base " + base, new BigInteger(text, base).bitLength(), () -> works.read(2, b));
            holds("read base " + base, works, 2, new BigInteger(text, base));
        }
        Numbers.feedText(works, "0".repeat(50));
        Checks.due("read noughts", 0, () -> works.read(2, 10));
        works.set(3, 99);
        Numbers.feedText(works, "120");
        for (int base : NO_BASES) {
            Checks.thrown("read base " + base, ARGUMENT, () -> works.read(3, base));
        }
        for (int r : MISSING) {
            Checks.thrown("read to " + r, ARGUMENT, () -> works.read(r, 10));
            Checks.thrown("read what is no digit to " + r, ARGUMENT, () -> works.read(r, 2));
        }
        Checks.due("a refused base or register leaves the tape", 0, () -> works.end(3));
        Checks.thrown("read what is no digit", UNSUPPORTED, () -> works.read(3, 2));
        holds("what is no digit leaves the register", works, 3, BigInteger.valueOf(99));
        Checks.thrown("what is no digit empties the tape", ARGUMENT, () -> works.end(1));
        Checks.due("and nothing is read next", 0, () -> works.read(3, 2));
    }

    private static void promise16ReadEveryByte() {
        LimbWorks works = new LimbWorks();
        for (int base = 2; base <= 36; base++) {
            for (int octet = 0; octet < 256; octet++) {
                int digit = octet < 128 ? Character.digit(octet, base) : -1;
                int b = base;
                works.feed(0x31000000 | octet << 16, 0, 0, 0, 0);
                works.end(2);
                String due = digit < 0 ? UNSUPPORTED.getSimpleName()
                        : Integer.toString(32 - Integer.numberOfLeadingZeros(base + digit));
                Checks.same("byte " + octet + " in base " + base, due, Checks.outcome(() -> works.read(4, b)));
                if (digit >= 0) {
                    Checks.due("byte " + octet + " in base " + base, base + digit, () -> works.word(4, 0));
                }
            }
        }
    }

    private static void wrote(String what, LimbWorks works, int register, int base, String due) {
        Checks.due(what, due.length(), () -> works.write(register, base));
        Checks.same(what, due, Numbers.outText(works, due.length()));
        Checks.thrown(what + ": no more", NONE, () -> works.octet(due.length()));
    }

    private static void promise17Write() {
        LimbWorks works = new LimbWorks();
        BigInteger x = new BigInteger("123456789".repeat(30));
        Numbers.plant(works, 1, 9, x);
        for (int base = 2; base <= 36; base++) {
            wrote("write base " + base, works, 1, base, x.toString(base));
            wrote("write 0 in base " + base, works, 0, base, "0");
            works.set(2, base - 1);
            wrote("write one digit of base " + base, works, 2, base, Integer.toString(base - 1, base));
            for (int n = 1; n < 70; n++) {
                BigInteger power = Numbers.power(base, n);
                Numbers.plant(works, 3, 9, power);
                wrote("write " + base + "^" + n, works, 3, base, power.toString(base));
                works.set(9, 1);
                works.subtract(3, 3, 9);
                String before = power.subtract(BigInteger.ONE).toString(base);
                wrote("write " + base + "^" + n + " - 1", works, 3, base, before);
            }
        }
        holds("write leaves the register", works, 1, x);
        wrote("write", works, 1, 10, x.toString());
        for (int base : NO_BASES) {
            Checks.thrown("write base " + base, ARGUMENT, () -> works.write(2, base));
        }
        for (int r : MISSING) {
            Checks.thrown("write " + r, ARGUMENT, () -> works.write(r, 10));
        }
        Checks.same("a refused write leaves out", x.toString(), Numbers.outText(works, x.toString().length()));
    }

    /** The greatest number of 20000 digits and the one behind it, in every base, and the greatest of all. */
    private static void promise17WriteAtTheLimit() {
        LimbWorks works = new LimbWorks();
        for (int base = 2; base <= 36; base++) {
            BigInteger over = Numbers.power(base, 20000);
            int b = base;
            Numbers.plant(works, 1, 9, over);
            works.set(9, 1);
            works.subtract(2, 1, 9);
            String most = over.subtract(BigInteger.ONE).toString(base);
            wrote("write 20000 digits in base " + base, works, 2, base, most);
            Checks.thrown("write 20001 digits in base " + base, STATE, () -> works.write(1, b));
            works.shift(3, 9, 199999);
            Checks.thrown("write the longest in base " + base, STATE, () -> works.write(3, b));
            Checks.same("a refused write leaves out", most, Numbers.outText(works, most.length()));
        }
    }

    private static void promise18Octet() {
        LimbWorks works = new LimbWorks();
        Checks.thrown("octet of no out", NONE, () -> works.octet(0));
        works.set(0, 0xFACEL);
        works.write(0, 16);
        String due = "face";
        for (int k = 0; k < 4; k++) {
            int at = k;
            Checks.due("octet " + k, due.charAt(k), () -> works.octet(at));
        }
        for (int k : new int[] {-1, 4, 5, 19999, 20000, Integer.MIN_VALUE, Integer.MAX_VALUE}) {
            Checks.thrown("octet " + k, NONE, () -> works.octet(k));
        }
        works.set(1, 7);
        works.write(1, 8);
        Checks.due("octet of the next out", '7', () -> works.octet(0));
        Checks.thrown("octet of the out before", NONE, () -> works.octet(1));
        Checks.thrown("write refused", ARGUMENT, () -> works.write(1, 1));
        works.shift(2, 1, 100000);
        Checks.thrown("write refused", STATE, () -> works.write(2, 2));
        Checks.due("octet of the last write not refused", '7', () -> works.octet(0));
        Checks.thrown("octet of the last write not refused", NONE, () -> works.octet(1));
    }
}
