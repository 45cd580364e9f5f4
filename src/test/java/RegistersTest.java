import java.math.BigInteger;

/** Promises 1, 2, 3, 11, 12 and 13: a new object, set, copy, compare, bits, word. */
public final class RegistersTest {
    private static final Class<IllegalArgumentException> ARGUMENT = IllegalArgumentException.class;
    private static final int[] MISSING = {-1, 10, Integer.MIN_VALUE, Integer.MAX_VALUE};

    private RegistersTest() {
    }

    public static void main(String[] args) {
        promise1NewObject();
        promise2Set();
        promise3Copy();
        promise11Compare();
        promise12Bits();
        promise13Word();
        Checks.finish("RegistersTest");
    }

    private static void promise1NewObject() {
        LimbWorks works = new LimbWorks();
        for (int r = 0; r < 10; r++) {
            int register = r;
            Checks.due("new: bits", 0, () -> works.bits(register));
            Checks.due("new: word", 0, () -> works.word(register, 0));
            Checks.due("new: last word", 0, () -> works.word(register, 6249));
        }
        Checks.due("new: the tape is empty", 0, () -> works.end(0));
        Checks.thrown("new: the tape has no byte", ARGUMENT, () -> works.end(1));
        Checks.thrown("new: out is empty", java.util.NoSuchElementException.class, () -> works.octet(0));
        LimbWorks other = new LimbWorks();
        works.set(3, 7);
        Checks.due("new: objects share nothing", 0, () -> other.bits(3));
    }

    private static void promise2Set() {
        LimbWorks works = new LimbWorks();
        long[] values = {0, 1, 2, 0xFFFFFFFFL, 1L << 32, Long.MAX_VALUE, Long.MIN_VALUE, -1};
        int[] bits = {0, 1, 2, 32, 33, 63, 64, 64};
        for (int i = 0; i < values.length; i++) {
            long value = values[i];
            int register = i;
            Checks.due("set " + value, bits[i], () -> works.set(register, value));
            Checks.due("set " + value + ": low word", value & 0xFFFFFFFFL, () -> works.word(register, 0));
            Checks.due("set " + value + ": next word", value >>> 32, () -> works.word(register, 1));
        }
        works.shift(9, 7, 1000);
        Checks.due("set over a long number", 3, () -> works.set(9, 5));
        Checks.same("set over a long number", BigInteger.valueOf(5), Numbers.value(works, 9));
        for (int r : MISSING) {
            Checks.thrown("set in register " + r, ARGUMENT, () -> works.set(r, 1));
        }
    }

    private static void promise3Copy() {
        LimbWorks works = new LimbWorks();
        BigInteger x = BigInteger.ONE.shiftLeft(199999).add(BigInteger.TEN);
        Numbers.plant(works, 2, 1, x);
        Checks.due("copy", 200000, () -> works.copy(0, 2));
        Checks.same("copy", x, Numbers.value(works, 0));
        works.set(2, 9);
        Checks.same("copy is another number", x, Numbers.value(works, 0));
        Checks.due("copy to itself", 200000, () -> works.copy(0, 0));
        Checks.same("copy to itself", x, Numbers.value(works, 0));
        Checks.due("copy a shorter one", 4, () -> works.copy(0, 2));
        Checks.same("copy a shorter one", BigInteger.valueOf(9), Numbers.value(works, 0));
        Checks.due("copy 0", 0, () -> works.copy(0, 7));
        for (int r : MISSING) {
            Checks.thrown("copy to " + r, ARGUMENT, () -> works.copy(r, 2));
            Checks.thrown("copy from " + r, ARGUMENT, () -> works.copy(2, r));
        }
        Checks.same("a refused copy", BigInteger.valueOf(9), Numbers.value(works, 2));
    }

    private static void promise11Compare() {
        LimbWorks works = new LimbWorks();
        works.set(1, 5);
        works.set(2, 6);
        works.set(3, -1);
        works.shift(4, 1, 64);
        works.set(5, 1);
        works.add(5, 4, 5);
        works.shift(6, 2, 64);
        works.set(7, 0x7FFFFFFFL);
        works.set(8, 0x80000000L);
        int[] rising = {0, 1, 2, 7, 8, 3, 4, 5, 6};
        for (int i = 0; i < rising.length; i++) {
            for (int j = 0; j < rising.length; j++) {
                int a = rising[i];
                int b = rising[j];
                Checks.due("compare " + a + " " + b, Integer.compare(i, j), () -> works.compare(a, b));
            }
        }
        works.copy(9, 5);
        Checks.due("compare the same", 0, () -> works.compare(9, 5));
        for (int r : MISSING) {
            Checks.thrown("compare " + r, ARGUMENT, () -> works.compare(r, 2));
            Checks.thrown("compare with " + r, ARGUMENT, () -> works.compare(2, r));
        }
    }

    private static void promise12Bits() {
        LimbWorks works = new LimbWorks();
        works.set(1, 1);
        for (int n : new int[] {0, 1, 30, 31, 32, 33, 63, 64, 199998, 199999}) {
            works.shift(0, 1, n);
            Checks.due("bits of 2^" + n, n + 1, () -> works.bits(0));
        }
        works.subtract(0, 0, 1);
        Checks.due("bits of 2^199999 - 1", 199999, () -> works.bits(0));
        Checks.due("bits of 0", 0, () -> works.bits(9));
        for (int r : MISSING) {
            Checks.thrown("bits of register " + r, ARGUMENT, () -> works.bits(r));
        }
    }

    private static void promise13Word() {
        LimbWorks works = new LimbWorks();
        works.set(1, 0xFEDCBA9876543210L);
        Checks.due("word 0", 0x76543210L, () -> works.word(1, 0));
        Checks.due("word 1", 0xFEDCBA98L, () -> works.word(1, 1));
        Checks.due("word 2", 0, () -> works.word(1, 2));
        works.shift(2, 1, 199936);
        Checks.due("the last word", 0xFEDCBA98L, () -> works.word(2, 6249));
        Checks.due("the last word but one", 0x76543210L, () -> works.word(2, 6248));
        Checks.due("a word below", 0, () -> works.word(2, 6247));
        works.set(2, 1);
        Checks.due("a word of what was there before", 0, () -> works.word(2, 6249));
        for (int k : new int[] {-1, 6250, Integer.MIN_VALUE, Integer.MAX_VALUE}) {
            Checks.thrown("word " + k, ARGUMENT, () -> works.word(1, k));
        }
        for (int r : MISSING) {
            Checks.thrown("word of register " + r, ARGUMENT, () -> works.word(r, 0));
        }
    }
}
