import java.math.BigInteger;

/** Promises 4 to 10: shift, add, subtract, times, divide, power, root. */
public final class ArithmeticTest {
    private static final Class<IllegalArgumentException> ARGUMENT = IllegalArgumentException.class;
    private static final Class<IllegalStateException> STATE = IllegalStateException.class;
    private static final Class<ArithmeticException> ARITHMETIC = ArithmeticException.class;
    private static final int[] MISSING = {-1, 10, Integer.MIN_VALUE, Integer.MAX_VALUE};
    private static final BigInteger FULL = BigInteger.ONE.shiftLeft(200000).subtract(BigInteger.ONE);

    private ArithmeticTest() {
    }

    public static void main(String[] args) {
        promise4Shift();
        promise5Add();
        promise6Subtract();
        promise7Times();
        promise8Divide();
        promise8DivideSharedRegisters();
        promise9Power();
        promise10Root();
        Checks.finish("ArithmeticTest");
    }

    private static void holds(String what, LimbWorks works, int register, BigInteger due) {
        Checks.same(what + ": register " + register, due, Numbers.value(works, register));
    }

    private static BigInteger big(String digits) {
        return new BigInteger(digits);
    }

    private static void promise4Shift() {
        LimbWorks works = new LimbWorks();
        works.set(1, 0xDEADBEEF12345677L);
        BigInteger x = Numbers.value(works, 1);
        for (int n : new int[] {0, 1, 31, 32, 33, 64, 100, 1000, 199936, -1, -31, -32, -33, -63, -64, -65, -200000}) {
            BigInteger due = x.shiftLeft(n);
            Checks.due("shift by " + n, due.bitLength(), () -> works.shift(2, 1, n));
            holds("shift by " + n, works, 2, due);
            works.copy(3, 1);
            Checks.due("shift in place by " + n, due.bitLength(), () -> works.shift(3, 3, n));
            holds("shift in place by " + n, works, 3, due);
        }
        Checks.due("shift 0 up", 0, () -> works.shift(2, 0, 200000));
        Checks.due("shift 0 down", 0, () -> works.shift(2, 0, -200000));
        works.set(4, 1);
        Checks.due("shift 1 to the most bits", 200000, () -> works.shift(5, 4, 199999));
        Checks.due("shift the most bits down", 1, () -> works.shift(6, 5, -199999));
        Checks.due("shift the most bits out", 0, () -> works.shift(6, 5, -200000));
        works.set(6, 77);
        Checks.thrown("shift 1 too far", STATE, () -> works.shift(6, 4, 200000));
        Checks.thrown("shift the most bits up", STATE, () -> works.shift(6, 5, 1));
        for (int n : new int[] {200001, -200001, Integer.MIN_VALUE, Integer.MAX_VALUE}) {
            Checks.thrown("shift by " + n, ARGUMENT, () -> works.shift(6, 0, n));
            Checks.thrown("shift the most bits by " + n, ARGUMENT, () -> works.shift(6, 5, n));
        }
        for (int r : MISSING) {
            Checks.thrown("shift to " + r, ARGUMENT, () -> works.shift(r, 5, 1));
            Checks.thrown("shift from " + r, ARGUMENT, () -> works.shift(6, r, 1));
        }
        holds("a refused shift", works, 6, BigInteger.valueOf(77));
    }

    private static void promise5Add() {
        LimbWorks works = new LimbWorks();
        works.set(1, -1);
        works.set(2, 1);
        Checks.due("add with carries", 65, () -> works.add(3, 1, 2));
        holds("add with carries", works, 3, BigInteger.ONE.shiftLeft(64));
        Checks.due("add short to long", 65, () -> works.add(4, 2, 3));
        holds("add short to long", works, 4, BigInteger.ONE.shiftLeft(64).add(BigInteger.ONE));
        Checks.due("add 0", 65, () -> works.add(5, 4, 0));
        Checks.due("add 0 and 0", 0, () -> works.add(6, 0, 0));
        Checks.due("add to itself", 66, () -> works.add(4, 4, 4));
        holds("add to itself", works, 4, BigInteger.ONE.shiftLeft(65).add(BigInteger.TWO));
        Numbers.plant(works, 7, 9, FULL);
        works.set(8, 3);
        works.set(2, 1);
        Checks.thrown("add 1 to the greatest", STATE, () -> works.add(8, 7, 2));
        Checks.thrown("double the greatest", STATE, () -> works.add(7, 7, 7));
        holds("a refused add", works, 8, BigInteger.valueOf(3));
        holds("a refused add in place", works, 7, FULL);
        works.subtract(6, 7, 2);
        Checks.due("add up to the greatest", 200000, () -> works.add(8, 6, 2));
        holds("add up to the greatest", works, 8, FULL);
        for (int r : MISSING) {
            Checks.thrown("add to " + r, ARGUMENT, () -> works.add(r, 7, 2));
            Checks.thrown("add first " + r, ARGUMENT, () -> works.add(8, r, 2));
            Checks.thrown("add second " + r, ARGUMENT, () -> works.add(8, 7, r));
        }
    }

    private static void promise6Subtract() {
        LimbWorks works = new LimbWorks();
        works.set(1, 1);
        works.shift(2, 1, 199999);
        Checks.due("subtract with borrows", 199999, () -> works.subtract(3, 2, 1));
        holds("subtract with borrows", works, 3, BigInteger.ONE.shiftLeft(199999).subtract(BigInteger.ONE));
        Checks.due("subtract to 1", 1, () -> works.subtract(4, 2, 3));
        Checks.due("subtract from itself", 0, () -> works.subtract(4, 2, 2));
        Checks.due("subtract 0", 1, () -> works.subtract(4, 1, 0));
        Checks.due("subtract 0 from 0", 0, () -> works.subtract(4, 0, 0));
        works.set(5, 1000);
        works.set(6, 999);
        Checks.thrown("subtract a greater one", ARITHMETIC, () -> works.subtract(5, 6, 5));
        Checks.thrown("subtract from 0", ARITHMETIC, () -> works.subtract(5, 0, 6));
        Checks.thrown("subtract a longer one", ARITHMETIC, () -> works.subtract(5, 6, 2));
        holds("a refused subtract", works, 5, BigInteger.valueOf(1000));
        Checks.due("subtract into the second", 1, () -> works.subtract(6, 5, 6));
        holds("subtract into the second", works, 6, BigInteger.ONE);
        Checks.due("subtract into the first", 10, () -> works.subtract(5, 5, 6));
        holds("subtract into the first", works, 5, BigInteger.valueOf(999));
        for (int r : MISSING) {
            Checks.thrown("subtract to " + r, ARGUMENT, () -> works.subtract(r, 6, 5));
            Checks.thrown("subtract first " + r, ARGUMENT, () -> works.subtract(5, r, 5));
            Checks.thrown("subtract second " + r, ARGUMENT, () -> works.subtract(5, 0, r));
        }
    }

    private static void promise7Times() {
        LimbWorks works = new LimbWorks();
        works.set(1, -1);
        works.set(2, 1000000007);
        Checks.due("times", 94, () -> works.times(3, 1, 2));
        holds("times", works, 3, big("18446744073709551615").multiply(big("1000000007")));
        Checks.due("times 0", 0, () -> works.times(3, 3, 0));
        Checks.due("0 times", 0, () -> works.times(3, 0, 1));
        Checks.due("0 times 0", 0, () -> works.times(3, 0, 0));
        Checks.due("squared in place", 128, () -> works.times(1, 1, 1));
        holds("squared in place", works, 1, big("18446744073709551615").pow(2));
        BigInteger half = BigInteger.ONE.shiftLeft(100000).subtract(BigInteger.ONE);
        Numbers.plant(works, 4, 9, half);
        Checks.due("times of the most bits", 200000, () -> works.times(5, 4, 4));
        holds("times of the most bits", works, 5, half.multiply(half));
        works.copy(8, 4);
        Checks.due("times of equal numbers", 200000, () -> works.times(5, 4, 8));
        holds("times of equal numbers", works, 5, half.multiply(half));
        works.set(6, 1);
        works.shift(7, 6, 100000);
        works.set(8, 5);
        Checks.thrown("times, whatever the product", STATE, () -> works.times(8, 4, 7));
        Checks.thrown("the most bits times 1", STATE, () -> works.times(8, 5, 6));
        holds("a refused times", works, 8, BigInteger.valueOf(5));
        Checks.due("the most bits times 0", 0, () -> works.times(8, 5, 0));
        for (int r : MISSING) {
            Checks.thrown("times to " + r, ARGUMENT, () -> works.times(r, 5, 5));
            Checks.thrown("times first " + r, ARGUMENT, () -> works.times(8, r, 5));
            Checks.thrown("times second " + r, ARGUMENT, () -> works.times(8, 5, r));
        }
    }

    private static void promise8Divide() {
        LimbWorks works = new LimbWorks();
        works.set(1, 1000);
        works.set(2, 7);
        Checks.due("divide", 8, () -> works.divide(3, 4, 1, 2));
        holds("divide", works, 3, BigInteger.valueOf(142));
        holds("divide", works, 4, BigInteger.valueOf(6));
        Checks.due("divide by a greater one", 0, () -> works.divide(3, 4, 2, 1));
        holds("divide by a greater one", works, 3, BigInteger.ZERO);
        holds("divide by a greater one", works, 4, BigInteger.valueOf(7));
        Checks.due("divide by itself", 1, () -> works.divide(3, 4, 1, 1));
        holds("divide by itself", works, 3, BigInteger.ONE);
        holds("divide by itself", works, 4, BigInteger.ZERO);
        Checks.due("divide 0", 0, () -> works.divide(3, 4, 0, 1));
        holds("divide 0", works, 4, BigInteger.ZERO);
        Numbers.plant(works, 5, 9, FULL);
        works.set(6, 1);
        Checks.due("divide the greatest by 1", 200000, () -> works.divide(3, 4, 5, 6));
        holds("divide the greatest by 1", works, 3, FULL);
        BigInteger divisor = BigInteger.ONE.shiftLeft(100000).subtract(BigInteger.ONE);
        Numbers.plant(works, 7, 9, divisor);
        Checks.due("divide the greatest", 100001, () -> works.divide(3, 4, 5, 7));
        holds("divide the greatest", works, 3, FULL.divide(divisor));
        holds("divide the greatest", works, 4, FULL.mod(divisor));
        works.set(3, 11);
        works.set(4, 12);
        Checks.thrown("divide by 0", ARITHMETIC, () -> works.divide(3, 4, 5, 0));
        Checks.thrown("divide 0 by 0", ARITHMETIC, () -> works.divide(3, 4, 0, 0));
        for (int r : MISSING) {
            Checks.thrown("quotient to " + r, ARGUMENT, () -> works.divide(r, 4, 5, 0));
            Checks.thrown("rest to " + r, ARGUMENT, () -> works.divide(3, r, 5, 0));
            Checks.thrown("divide " + r, ARGUMENT, () -> works.divide(3, 4, r, 0));
            Checks.thrown("divide by " + r, ARGUMENT, () -> works.divide(3, 4, 5, r));
        }
        holds("a refused divide", works, 3, BigInteger.valueOf(11));
        holds("a refused divide", works, 4, BigInteger.valueOf(12));
    }

    /** Every way in which the four registers of divide can be the same ones, with both orders of size. */
    private static void promise8DivideSharedRegisters() {
        BigInteger[] values = {big("98765432109876543210987654321098765432109876543210"), big("123456789012345678901"),
            big("77"), big("123456789012345678901234567")};
        for (int choice = 0; choice < 256; choice++) {
            int q = choice & 3;
            int r = choice >> 2 & 3;
            int a = choice >> 4 & 3;
            int b = choice >> 6 & 3;
            LimbWorks works = new LimbWorks();
            for (int i = 0; i < 4; i++) {
                Numbers.plant(works, i, 9, values[i]);
            }
            BigInteger[] due = values[a].divideAndRemainder(values[b]);
            String name = "divide(" + q + ", " + r + ", " + a + ", " + b + ")";
            Checks.due(name, due[0].bitLength(), () -> works.divide(q, r, a, b));
            for (int i = 0; i < 4; i++) {
                holds(name, works, i, i == r ? due[1] : i == q ? due[0] : values[i]);
            }
        }
    }

    private static void promise9Power() {
        LimbWorks works = new LimbWorks();
        works.set(1, 3);
        for (int n = 0; n <= 100; n++) {
            BigInteger due = BigInteger.valueOf(3).pow(n);
            int exponent = n;
            Checks.due("3 to the power of " + n, due.bitLength(), () -> works.power(2, 1, exponent));
            holds("3 to the power of " + n, works, 2, due);
        }
        Checks.due("0 to the power of 0", 1, () -> works.power(2, 0, 0));
        holds("0 to the power of 0", works, 2, BigInteger.ONE);
        Checks.due("0 to the power of 100", 0, () -> works.power(2, 0, 100));
        Checks.due("power in place", 12, () -> works.power(1, 1, 7));
        holds("power in place", works, 1, BigInteger.valueOf(2187));
        BigInteger x = BigInteger.ONE.shiftLeft(2000).subtract(BigInteger.ONE);
        Numbers.plant(works, 3, 9, x);
        Checks.due("power of the most bits", 200000, () -> works.power(4, 3, 100));
        holds("power of the most bits", works, 4, x.pow(100));
        works.set(5, 1);
        works.shift(6, 5, 2000);
        works.set(7, 9);
        Checks.thrown("power of too many bits", STATE, () -> works.power(7, 6, 100));
        works.shift(6, 5, 66666);
        Checks.thrown("power of too many bits, whatever comes out", STATE, () -> works.power(7, 6, 3));
        Checks.due("the most bits to the power of 1", 200000, () -> works.power(8, 4, 1));
        holds("the most bits to the power of 1", works, 8, x.pow(100));
        Checks.thrown("the most bits to the power of 2", STATE, () -> works.power(7, 4, 2));
        Checks.due("the most bits to the power of 0", 1, () -> works.power(8, 4, 0));
        for (int n : new int[] {-1, 101, Integer.MIN_VALUE, Integer.MAX_VALUE}) {
            Checks.thrown("power " + n, ARGUMENT, () -> works.power(7, 4, n));
        }
        for (int r : MISSING) {
            Checks.thrown("power to " + r, ARGUMENT, () -> works.power(r, 4, 2));
            Checks.thrown("power of " + r, ARGUMENT, () -> works.power(7, r, 2));
        }
        holds("a refused power", works, 7, BigInteger.valueOf(9));
    }

    private static void promise10Root() {
        LimbWorks works = new LimbWorks();
        for (int a = 0; a < 300; a++) {
            works.set(1, a);
            for (int n = 1; n <= 40; n++) {
                BigInteger due = Numbers.root(BigInteger.valueOf(a), n);
                int exponent = n;
                Checks.due("root " + n + " of " + a, due.bitLength(), () -> works.root(2, 1, exponent));
                holds("root " + n + " of " + a, works, 2, due);
            }
        }
        Numbers.plant(works, 3, 9, FULL);
        for (int n = 1; n <= 40; n++) {
            BigInteger due = Numbers.root(FULL, n);
            int exponent = n;
            Checks.due("root " + n + " of the greatest", due.bitLength(), () -> works.root(4, 3, exponent));
            holds("root " + n + " of the greatest", works, 4, due);
        }
        works.set(5, 1000000);
        Checks.due("root in place", 7, () -> works.root(5, 5, 3));
        holds("root in place", works, 5, BigInteger.valueOf(100));
        for (int n : new int[] {0, -1, 41, Integer.MIN_VALUE, Integer.MAX_VALUE}) {
            Checks.thrown("root " + n, ARGUMENT, () -> works.root(5, 3, n));
        }
        for (int r : MISSING) {
            Checks.thrown("root to " + r, ARGUMENT, () -> works.root(r, 3, 2));
            Checks.thrown("root of " + r, ARGUMENT, () -> works.root(5, r, 2));
        }
        holds("a refused root", works, 5, BigInteger.valueOf(100));
    }
}
