import java.math.BigInteger;

/** The boundary cases of promises 4 to 10; the sentence that names each stands above its test. */
public final class BoundaryArithmeticTest {
    private static final Class<IllegalArgumentException> ARGUMENT = IllegalArgumentException.class;
    private static final Class<IllegalStateException> STATE = IllegalStateException.class;
    private static final Class<ArithmeticException> ARITHMETIC = ArithmeticException.class;
    private static final int[] MISSING = {-1, 10, Integer.MIN_VALUE, Integer.MAX_VALUE};
    private static final int MOST_BITS = 200000;
    private static final BigInteger ONE = BigInteger.ONE;
    private static final BigInteger GREATEST = power2(MOST_BITS).subtract(ONE);

    /** Where no number is long, an object is made sooner. */
    private static final Scene PLAIN = new Scene().with(1, 1).with(5, 5).with(7, 77).with(8, power2(1000)).with(9, 7)
            .withTape("20z").withOut("bits");

    /** Register 0 is 0, and 2 and 3 are the greatest number and the least one of as many bits. */
    private static final Scene SCENE = PLAIN.with(2, GREATEST).with(3, power2(MOST_BITS - 1))
            .with(4, GREATEST.subtract(ONE));

    private BoundaryArithmeticTest() {
    }

    public static void main(String[] args) {
        promise4MostAndLeastShift();
        promise4RefusedShifts();
        promise4RoundedDown();
        promise4UpTo200000Bits();
        promise4MoreThan200000Bits();
        promise4RefusedRegisters();
        promise5UpTo200000Bits();
        promise5MoreThan200000Bits();
        promise5Carries();
        promise5RefusedRegisters();
        promise6DownTo0();
        promise6BIsGreater();
        promise6RefusedRegisters();
        promise7UpTo200000BitsTogether();
        promise7MoreThan200000BitsTogether();
        promise7WhateverTheProduct();
        promise7RefusedRegisters();
        promise8RoundedDownAndWhatIsLeft();
        promise8OfTheGreatest();
        promise8TheSameRegister();
        promise8BIs0();
        promise8RefusedRegisters();
        promise9MostAndLeastPower();
        promise9RefusedPowers();
        promise9OneForN0();
        promise9UpTo200000Bits();
        promise9MoreThan200000Bits();
        promise9RefusedRegisters();
        promise10MostAndLeastRoot();
        promise10RefusedRoots();
        promise10RoundedDown();
        promise10OfTheGreatest();
        promise10OfTheLeast();
        promise10RefusedRegisters();
        Checks.finish("BoundaryArithmeticTest");
    }

    private static BigInteger power2(int n) {
        return ONE.shiftLeft(n);
    }

    /** "n -200000 .. 200000": both ends are taken. */
    private static void promise4MostAndLeastShift() {
        SCENE.becomes("shift 0 by 200000", 7, 0, works -> works.shift(7, 0, 200000));
        SCENE.becomes("shift 0 by -200000", 7, 0, works -> works.shift(7, 0, -200000));
        SCENE.becomes("shift 1 by -200000", 7, 0, works -> works.shift(7, 1, -200000));
        SCENE.becomes("shift the greatest by -200000", 7, 0, works -> works.shift(7, 2, -200000));
        SCENE.becomes("shift the greatest by -199999", 7, 1, works -> works.shift(7, 2, -199999));
        SCENE.becomes("shift the greatest by 0", 7, GREATEST, works -> works.shift(7, 2, 0));
        SCENE.becomes("shift 0 in place by 200000", 0, 0, works -> works.shift(0, 0, 200000));
    }

    /** "n -200000 .. 200000": no other is taken, even if it came to nothing. */
    private static void promise4RefusedShifts() {
        for (int n : new int[] {200001, -200001, Integer.MIN_VALUE, Integer.MAX_VALUE}) {
            for (int a : new int[] {0, 1, 2}) {
                SCENE.refuses("shift " + a + " by " + n, ARGUMENT, works -> works.shift(7, a, n));
            }
        }
    }

    /** "a times 2^n, rounded down": bits that go out are lost, whatever they are. */
    private static void promise4RoundedDown() {
        BigInteger odd = GREATEST.shiftRight(199900);
        Scene scene = PLAIN.with(6, odd);
        for (int n : new int[] {1, 31, 32, 33, 63, 64, 65, 95, 96, 97, 99, 100, 101, 128, 129, 160, 9999}) {
            scene.becomes("shift 100 ones by -" + n, 7, odd.shiftRight(n), works -> works.shift(7, 6, -n));
            scene.becomes("shift 100 ones in place by -" + n, 6, odd.shiftRight(n), works -> works.shift(6, 6, -n));
        }
        for (int n : new int[] {1, 32, 199967, 199968, 199969}) {
            SCENE.becomes("shift the greatest by -" + n, 7, GREATEST.shiftRight(n), works -> works.shift(7, 2, -n));
            SCENE.becomes("shift 2^199999 by -" + n, 7, power2(199999 - n), works -> works.shift(7, 3, -n));
        }
        for (int n : new int[] {1, 31, 32, 33, 64, 199999}) {
            PLAIN.becomes("shift 0 by -" + n, 7, 0, works -> works.shift(7, 0, -n));
            PLAIN.becomes("shift 1 by -" + n, 7, 0, works -> works.shift(7, 1, -n));
        }
        SCENE.becomes("shift 2^1000 by -1000", 7, 1, works -> works.shift(7, 8, -1000));
        SCENE.becomes("shift 2^1000 by -1001", 7, 0, works -> works.shift(7, 8, -1001));
    }

    /** "IllegalStateException: more than 200000 bits.": up to there it is taken. */
    private static void promise4UpTo200000Bits() {
        SCENE.becomes("shift 1 to 200000 bits", 7, power2(199999), works -> works.shift(7, 1, 199999));
        SCENE.becomes("shift 5 to 200000 bits", 7, BigInteger.valueOf(5).shiftLeft(199997),
                works -> works.shift(7, 5, 199997));
        SCENE.becomes("shift 5 in place to 200000 bits", 5, BigInteger.valueOf(5).shiftLeft(199997),
                works -> works.shift(5, 5, 199997));
        SCENE.becomes("shift 2^1000 to 200000 bits", 7, power2(199999), works -> works.shift(7, 8, 198999));
        Scene scene = SCENE.with(6, GREATEST.shiftRight(1));
        scene.becomes("shift 199999 ones to 200000 bits", 7, GREATEST.subtract(ONE), works -> works.shift(7, 6, 1));
    }

    /** "IllegalStateException: more than 200000 bits." */
    private static void promise4MoreThan200000Bits() {
        SCENE.refuses("shift 1 to 200001 bits", STATE, works -> works.shift(7, 1, 200000));
        SCENE.refuses("shift 5 to 200001 bits", STATE, works -> works.shift(7, 5, 199998));
        SCENE.refuses("shift 5 in place to 200001 bits", STATE, works -> works.shift(5, 5, 199998));
        SCENE.refuses("shift 2^1000 to 200001 bits", STATE, works -> works.shift(7, 8, 199000));
        SCENE.refuses("shift the greatest by 1", STATE, works -> works.shift(7, 2, 1));
        SCENE.refuses("shift 2^199999 by 1", STATE, works -> works.shift(7, 3, 1));
        SCENE.refuses("shift the greatest by 200000", STATE, works -> works.shift(7, 2, 200000));
    }

    /** "throws IllegalArgumentException" */
    private static void promise4RefusedRegisters() {
        for (int r : MISSING) {
            SCENE.refuses("shift to " + r, ARGUMENT, works -> works.shift(r, 1, 1));
            SCENE.refuses("shift from " + r, ARGUMENT, works -> works.shift(7, r, 1));
            SCENE.refuses("shift from " + r + " by 200000", ARGUMENT, works -> works.shift(7, r, 200000));
        }
    }

    /** "IllegalStateException: more than 200000 bits.": up to there it is taken. */
    private static void promise5UpTo200000Bits() {
        SCENE.becomes("add 1 to the greatest but one", 7, GREATEST, works -> works.add(7, 4, 1));
        SCENE.becomes("add the greatest but one to 1", 7, GREATEST, works -> works.add(7, 1, 4));
        SCENE.becomes("add 0 to the greatest", 7, GREATEST, works -> works.add(7, 2, 0));
        SCENE.becomes("add the greatest to 0", 7, GREATEST, works -> works.add(7, 0, 2));
        BigInteger below = power2(199999).subtract(ONE);
        Scene scene = SCENE.with(6, below);
        scene.becomes("add 199999 ones to 2^199999", 7, GREATEST, works -> works.add(7, 3, 6));
        scene.becomes("double 199999 ones", 7, GREATEST.subtract(ONE), works -> works.add(7, 6, 6));
    }

    /** "IllegalStateException: more than 200000 bits." */
    private static void promise5MoreThan200000Bits() {
        SCENE.refuses("add 1 to the greatest", STATE, works -> works.add(7, 2, 1));
        SCENE.refuses("add the greatest to 1", STATE, works -> works.add(7, 1, 2));
        SCENE.refuses("add 1 to the greatest in place", STATE, works -> works.add(2, 2, 1));
        SCENE.refuses("add 1 to the greatest in its place", STATE, works -> works.add(1, 2, 1));
        SCENE.refuses("double 2^199999", STATE, works -> works.add(7, 3, 3));
        SCENE.refuses("double the greatest", STATE, works -> works.add(7, 2, 2));
        Scene scene = SCENE.with(6, power2(199999).add(ONE)).with(8, power2(199999).subtract(ONE));
        scene.refuses("add up to 2^200000", STATE, works -> works.add(7, 6, 8));
    }

    /** "A register becomes a + b; answers its bits.": a carry that goes through and makes the number longer. */
    private static void promise5Carries() {
        for (int bits : new int[] {31, 32, 33, 64, 96, 199967, 199968, 199999}) {
            Scene scene = PLAIN.with(6, power2(bits).subtract(ONE));
            scene.becomes("add 1 to " + bits + " ones", 7, power2(bits), works -> works.add(7, 6, 1));
            scene.becomes("add " + bits + " ones to 1", 1, power2(bits), works -> works.add(1, 1, 6));
        }
    }

    /** "throws IllegalArgumentException" */
    private static void promise5RefusedRegisters() {
        for (int r : MISSING) {
            SCENE.refuses("add to " + r, ARGUMENT, works -> works.add(r, 1, 1));
            SCENE.refuses("add " + r + " to 1", ARGUMENT, works -> works.add(7, r, 1));
            SCENE.refuses("add 1 to " + r, ARGUMENT, works -> works.add(7, 1, r));
            SCENE.refuses("add the greatest to " + r, ARGUMENT, works -> works.add(7, 2, r));
        }
    }

    /** "A register becomes a - b; answers its bits.": down to 0. */
    private static void promise6DownTo0() {
        SCENE.becomes("subtract 1 from 1", 7, 0, works -> works.subtract(7, 1, 1));
        SCENE.becomes("subtract 0 from 0", 7, 0, works -> works.subtract(7, 0, 6));
        SCENE.becomes("subtract the greatest from itself", 2, 0, works -> works.subtract(2, 2, 2));
        SCENE.becomes("subtract the greatest but one", 7, 1, works -> works.subtract(7, 2, 4));
        SCENE.becomes("subtract 2^199999", 7, power2(199999).subtract(ONE), works -> works.subtract(7, 2, 3));
        SCENE.becomes("subtract 1 from 2^199999", 7, power2(199999).subtract(ONE), works -> works.subtract(7, 3, 1));
        SCENE.becomes("subtract 0 from the greatest", 7, GREATEST, works -> works.subtract(7, 2, 0));
        for (int bits : new int[] {31, 32, 33, 64, 96, 199967, 199968}) {
            Scene scene = PLAIN.with(6, power2(bits)).with(8, power2(bits));
            scene.becomes("subtract 1 from 2^" + bits, 7, power2(bits).subtract(ONE), works -> works.subtract(7, 6, 1));
            scene.becomes("subtract 2^" + bits + " from the same", 7, 0, works -> works.subtract(7, 6, 8));
        }
    }

    /** "ArithmeticException: b is greater." */
    private static void promise6BIsGreater() {
        SCENE.refuses("subtract 1 from 0", ARITHMETIC, works -> works.subtract(7, 0, 1));
        SCENE.refuses("subtract the greatest from 0", ARITHMETIC, works -> works.subtract(7, 0, 2));
        SCENE.refuses("subtract the greatest from the next", ARITHMETIC, works -> works.subtract(7, 4, 2));
        SCENE.refuses("subtract the greatest from 2^199999", ARITHMETIC, works -> works.subtract(7, 3, 2));
        SCENE.refuses("subtract 7 from 5", ARITHMETIC, works -> works.subtract(7, 5, 9));
        SCENE.refuses("subtract 7 from 5 in place", ARITHMETIC, works -> works.subtract(5, 5, 9));
        SCENE.refuses("subtract 7 from 5 in its place", ARITHMETIC, works -> works.subtract(9, 5, 9));
        for (int bits : new int[] {1, 31, 32, 33, 63, 64, 65, 96, 199999}) {
            Scene scene = PLAIN.with(6, power2(bits)).with(8, power2(bits).subtract(ONE));
            scene.refuses("subtract 2^" + bits + " from one less", ARITHMETIC, works -> works.subtract(7, 8, 6));
            scene.becomes("subtract from 2^" + bits + " one less", 7, 1, works -> works.subtract(7, 6, 8));
        }
    }

    /** "throws IllegalArgumentException" */
    private static void promise6RefusedRegisters() {
        for (int r : MISSING) {
            SCENE.refuses("subtract to " + r, ARGUMENT, works -> works.subtract(r, 1, 1));
            SCENE.refuses("subtract from " + r, ARGUMENT, works -> works.subtract(7, r, 0));
            SCENE.refuses("subtract " + r, ARGUMENT, works -> works.subtract(7, 1, r));
            SCENE.refuses("subtract " + r + " from 0", ARGUMENT, works -> works.subtract(7, 0, r));
        }
    }

    /** "a and b have more than 200000 bits together": up to there they are taken. */
    private static void promise7UpTo200000BitsTogether() {
        for (int bits : new int[] {1, 2, 31, 32, 33, 1000, 66666, 99999, 100000}) {
            BigInteger x = power2(bits).subtract(ONE);
            BigInteger y = power2(MOST_BITS - bits).subtract(ONE);
            Scene scene = PLAIN.with(6, x).with(8, y);
            scene.becomes("times of " + bits + " ones", 7, x.multiply(y), works -> works.times(7, 6, 8));
            scene.becomes("times " + bits + " ones", 7, x.multiply(y), works -> works.times(7, 8, 6));
        }
        SCENE.becomes("the greatest times 0", 7, 0, works -> works.times(7, 2, 0));
        SCENE.becomes("0 times the greatest", 7, 0, works -> works.times(7, 0, 2));
        SCENE.becomes("0 times 0", 7, 0, works -> works.times(7, 0, 0));
        BigInteger half = power2(100000).subtract(ONE);
        PLAIN.with(6, half).becomes("the square of 100000 ones", 6, half.multiply(half), works -> works.times(6, 6, 6));
    }

    /** "IllegalStateException: a and b have more than 200000 bits together" */
    private static void promise7MoreThan200000BitsTogether() {
        for (int bits : new int[] {1, 2, 31, 32, 33, 1000, 66666, 99999, 100000}) {
            Scene scene = PLAIN.with(6, power2(bits).subtract(ONE)).with(8, power2(MOST_BITS + 1 - bits).subtract(ONE));
            scene.refuses("times of " + bits + " ones", STATE, works -> works.times(7, 6, 8));
            scene.refuses("times " + bits + " ones", STATE, works -> works.times(7, 8, 6));
        }
        SCENE.refuses("the square of the greatest", STATE, works -> works.times(7, 2, 2));
        SCENE.refuses("the square of the greatest in place", STATE, works -> works.times(2, 2, 2));
        PLAIN.with(6, power2(100000)).refuses("the square of 100001 bits", STATE, works -> works.times(7, 6, 6));
    }

    /** "(whatever the product)": it would have no more than 200000 bits. */
    private static void promise7WhateverTheProduct() {
        SCENE.refuses("2^199999 times 1", STATE, works -> works.times(7, 3, 1));
        SCENE.refuses("1 times 2^199999", STATE, works -> works.times(7, 1, 3));
        SCENE.refuses("the greatest times 1", STATE, works -> works.times(7, 2, 1));
        SCENE.refuses("1 times the greatest in place", STATE, works -> works.times(2, 1, 2));
        Scene scene = SCENE.with(6, power2(99999)).with(8, power2(100000));
        scene.refuses("2^99999 times 2^100000", STATE, works -> works.times(7, 6, 8));
        scene.refuses("2^100000 times 2^99999", STATE, works -> works.times(7, 8, 6));
        scene.becomes("2^99999 times 2^99999", 7, power2(199998), works -> works.times(7, 6, 6));
    }

    /** "throws IllegalArgumentException" */
    private static void promise7RefusedRegisters() {
        for (int r : MISSING) {
            SCENE.refuses("times to " + r, ARGUMENT, works -> works.times(r, 1, 1));
            SCENE.refuses(r + " times 1", ARGUMENT, works -> works.times(7, r, 1));
            SCENE.refuses("1 times " + r, ARGUMENT, works -> works.times(7, 1, r));
            SCENE.refuses("0 times " + r, ARGUMENT, works -> works.times(7, 0, r));
            SCENE.refuses(r + " times the greatest", ARGUMENT, works -> works.times(7, r, 2));
        }
    }

    private static void divides(Scene scene, String what, int a, int b) {
        BigInteger[] due = scene.value(a).divideAndRemainder(scene.value(b));
        scene.takes(what, due[0].bitLength(), scene.with(7, due[0]).with(0, due[1]), works -> works.divide(7, 0, a, b));
    }

    /** "a over b, rounded down, and what is left": about the numbers where the quotient becomes one more. */
    private static void promise8RoundedDownAndWhatIsLeft() {
        for (int bits : new int[] {1, 2, 31, 32, 33, 64, 65, 2560, 2600, 99999}) {
            BigInteger b = power2(bits).add(ONE);
            BigInteger twice = b.shiftLeft(1);
            Scene scene = PLAIN.with(1, b.subtract(ONE)).with(2, b).with(3, b.add(ONE)).with(4, twice.subtract(ONE))
                    .with(5, twice).with(6, b.multiply(b).subtract(ONE)).with(8, b.multiply(b));
            for (int a = 0; a < 9; a++) {
                divides(scene, "divide " + a + " by 2^" + bits + " + 1", a, 2);
            }
        }
    }

    /** "a over b, rounded down, and what is left": the greatest of all, by the least and the greatest. */
    private static void promise8OfTheGreatest() {
        divides(SCENE, "divide 0 by 1", 0, 1);
        divides(SCENE, "divide 0 by the greatest", 0, 2);
        divides(SCENE, "divide 1 by the greatest", 1, 2);
        divides(SCENE, "divide the greatest by 1", 2, 1);
        divides(SCENE, "divide the greatest by 5", 2, 5);
        divides(SCENE, "divide the greatest by itself", 2, 2);
        divides(SCENE, "divide the greatest by the next", 2, 4);
        divides(SCENE, "divide the greatest but one by the greatest", 4, 2);
        divides(SCENE, "divide the greatest by 2^199999", 2, 3);
        divides(SCENE, "divide 2^199999 by the greatest", 3, 2);
        divides(SCENE, "divide 2^199999 by 2^1000", 3, 8);
    }

    /** "if they are the same register it becomes what is left"; "answers the bits of the quotient." */
    private static void promise8TheSameRegister() {
        Scene scene = SCENE.with(6, 1000);
        scene.takes("1000 over 7 to one register", 8, scene.with(0, 6), works -> works.divide(0, 0, 6, 9));
        scene.takes("1000 over 7 to its own register", 8, scene.with(6, 6), works -> works.divide(6, 6, 6, 9));
        scene.takes("1000 over 7 to the divisor's register", 8, scene.with(9, 6), works -> works.divide(9, 9, 6, 9));
        scene.takes("5 over 7 to one register", 0, scene.with(0, 5), works -> works.divide(0, 0, 5, 9));
        scene.takes("the greatest over 1 to one register", 200000, scene.with(0, 0), works -> works.divide(0, 0, 2, 1));
        scene.takes("1 over itself to one register", 1, scene.with(1, 0), works -> works.divide(1, 1, 1, 1));
    }

    /** "ArithmeticException: b is 0." */
    private static void promise8BIs0() {
        for (int a : new int[] {0, 1, 2, 3, 7}) {
            SCENE.refuses("divide " + a + " by 0", ARITHMETIC, works -> works.divide(7, 8, a, 0));
            SCENE.refuses("divide " + a + " by 0 to one register", ARITHMETIC, works -> works.divide(7, 7, a, 0));
            SCENE.refuses("divide " + a + " by 0 in place", ARITHMETIC, works -> works.divide(a, 0, a, 0));
        }
    }

    /** "throws IllegalArgumentException" */
    private static void promise8RefusedRegisters() {
        for (int r : MISSING) {
            SCENE.refuses("divide to " + r, ARGUMENT, works -> works.divide(r, 7, 2, 5));
            SCENE.refuses("divide with the rest to " + r, ARGUMENT, works -> works.divide(7, r, 2, 5));
            SCENE.refuses("divide " + r, ARGUMENT, works -> works.divide(7, 8, r, 5));
            SCENE.refuses("divide by " + r, ARGUMENT, works -> works.divide(7, 8, 2, r));
        }
    }

    /** "n 0 .. 100": both ends are taken. */
    private static void promise9MostAndLeastPower() {
        PLAIN.becomes("7^0", 7, 1, works -> works.power(7, 9, 0));
        PLAIN.becomes("7^1", 7, 7, works -> works.power(7, 9, 1));
        PLAIN.becomes("7^99", 7, Numbers.power(7, 99), works -> works.power(7, 9, 99));
        PLAIN.becomes("7^100", 7, Numbers.power(7, 100), works -> works.power(7, 9, 100));
        PLAIN.becomes("1^100", 7, 1, works -> works.power(7, 1, 100));
        PLAIN.becomes("0^100", 7, 0, works -> works.power(7, 0, 100));
        PLAIN.becomes("0^1", 7, 0, works -> works.power(7, 0, 1));
    }

    /** "n 0 .. 100": no other is taken, even of 0 and 1. */
    private static void promise9RefusedPowers() {
        for (int n : new int[] {-1, 101, 102, Integer.MIN_VALUE, Integer.MAX_VALUE}) {
            for (int a : new int[] {0, 1, 2, 9}) {
                SCENE.refuses("power " + n + " of " + a, ARGUMENT, works -> works.power(7, a, n));
            }
        }
    }

    /** "1 for n 0": whatever a is. */
    private static void promise9OneForN0() {
        for (int a : new int[] {0, 1, 2, 3, 5}) {
            SCENE.becomes("power 0 of " + a, 7, 1, works -> works.power(7, a, 0));
            SCENE.becomes("power 0 of " + a + " in place", a, 1, works -> works.power(a, a, 0));
        }
    }

    /** "n times the bits of a are more than 200000.": up to there they are taken. */
    private static void promise9UpTo200000Bits() {
        for (int n : new int[] {1, 2, 3, 7, 31, 32, 33, 40, 63, 64, 65, 99, 100}) {
            BigInteger x = power2(MOST_BITS / n).subtract(ONE);
            Scene scene = PLAIN.with(6, x);
            scene.becomes("power " + n + " of " + MOST_BITS / n + " ones", 7, x.pow(n), works -> works.power(7, 6, n));
        }
        SCENE.becomes("the greatest to the power of 1", 7, GREATEST, works -> works.power(7, 2, 1));
        BigInteger half = power2(100000).subtract(ONE);
        PLAIN.with(6, half).becomes("power 2 in place", 6, half.pow(2), works -> works.power(6, 6, 2));
    }

    /** "IllegalStateException: n times the bits of a are more than 200000.", even if the power has fewer. */
    private static void promise9MoreThan200000Bits() {
        for (int n : new int[] {2, 3, 7, 31, 32, 33, 40, 63, 64, 65, 99, 100}) {
            int bits = MOST_BITS / n + 1;
            Scene scene = PLAIN.with(6, power2(bits).subtract(ONE)).with(8, power2(bits - 1));
            scene.refuses("power " + n + " of " + bits + " ones", STATE, works -> works.power(7, 6, n));
            scene.refuses("power " + n + " of 2^" + (bits - 1), STATE, works -> works.power(7, 8, n));
            scene.refuses("power " + n + " of 2^" + (bits - 1) + " in place", STATE, works -> works.power(8, 8, n));
        }
        SCENE.refuses("the greatest to the power of 2", STATE, works -> works.power(7, 2, 2));
        SCENE.refuses("the greatest to the power of 100", STATE, works -> works.power(7, 2, 100));
    }

    /** "throws IllegalArgumentException" */
    private static void promise9RefusedRegisters() {
        for (int r : MISSING) {
            SCENE.refuses("power to " + r, ARGUMENT, works -> works.power(r, 1, 2));
            SCENE.refuses("power of " + r, ARGUMENT, works -> works.power(7, r, 2));
            SCENE.refuses("power 0 of " + r, ARGUMENT, works -> works.power(7, r, 0));
            SCENE.refuses("power 0 to " + r, ARGUMENT, works -> works.power(r, 1, 0));
        }
    }

    /** "n 1 .. 40": both ends are taken. */
    private static void promise10MostAndLeastRoot() {
        SCENE.becomes("root 1 of 5", 7, 5, works -> works.root(7, 5, 1));
        SCENE.becomes("root 1 in place", 2, GREATEST, works -> works.root(2, 2, 1));
        Scene scene = PLAIN.with(6, Numbers.power(7, 40));
        scene.becomes("root 40 of 7^40", 7, 7, works -> works.root(7, 6, 40));
        scene.becomes("root 39 of 7^40", 7, Numbers.root(Numbers.power(7, 40), 39), works -> works.root(7, 6, 39));
        scene.becomes("root 40 in place", 6, 7, works -> works.root(6, 6, 40));
    }

    /** "n 1 .. 40": no other is taken, even of 0 and 1. */
    private static void promise10RefusedRoots() {
        for (int n : new int[] {0, -1, 41, 42, Integer.MIN_VALUE, Integer.MAX_VALUE}) {
            for (int a : new int[] {0, 1, 2, 9}) {
                SCENE.refuses("root " + n + " of " + a, ARGUMENT, works -> works.root(7, a, n));
            }
        }
    }

    /** "the n-th root of a, rounded down": about whole powers, where the root becomes one more. */
    private static void promise10RoundedDown() {
        for (int n = 1; n <= 40; n++) {
            for (BigInteger x : new BigInteger[] {BigInteger.TWO, BigInteger.valueOf(3), power2(32).subtract(ONE),
                power2(32), power2(97).add(ONE)}) {
                int exponent = n;
                BigInteger power = x.pow(n);
                Scene scene = PLAIN.with(5, power.subtract(ONE)).with(6, power).with(8, power.add(ONE));
                BigInteger above = n == 1 ? x.add(ONE) : x;
                scene.becomes("root " + n + " below " + x, 7, x.subtract(ONE), works -> works.root(7, 5, exponent));
                scene.becomes("root " + n + " to " + x, 7, x, works -> works.root(7, 6, exponent));
                scene.becomes("root " + n + " above " + x, 7, above, works -> works.root(7, 8, exponent));
            }
        }
    }

    /** "the n-th root of a, rounded down": of the greatest, and about the greatest whole power. */
    private static void promise10OfTheGreatest() {
        for (int n = 1; n <= 40; n++) {
            int exponent = n;
            BigInteger x = Numbers.root(GREATEST, n);
            Scene scene = SCENE.with(6, x.pow(n)).with(8, x.pow(n).subtract(ONE));
            scene.becomes("root " + n + " of the greatest", 7, x, works -> works.root(7, 2, exponent));
            scene.becomes("root " + n + " of 2^199999", 7, Numbers.root(power2(199999), n),
                    works -> works.root(7, 3, exponent));
            scene.becomes("root " + n + " of the greatest power", 7, x, works -> works.root(7, 6, exponent));
            scene.becomes("root " + n + " of one less", 7, x.subtract(ONE), works -> works.root(7, 8, exponent));
        }
    }

    /** "the n-th root of a, rounded down": of 0, of 1, and of numbers of about n bits. */
    private static void promise10OfTheLeast() {
        for (int n = 1; n <= 40; n++) {
            int exponent = n;
            Scene scene = PLAIN.with(6, power2(n)).with(8, power2(n).subtract(ONE));
            scene.becomes("root " + n + " of 0", 7, 0, works -> works.root(7, 0, exponent));
            scene.becomes("root " + n + " of 1", 7, 1, works -> works.root(7, 1, exponent));
            scene.becomes("root " + n + " of 2^" + n, 7, 2, works -> works.root(7, 6, exponent));
            scene.becomes("root " + n + " of 2^" + n + " - 1", 7, 1, works -> works.root(7, 8, exponent));
        }
    }

    /** "throws IllegalArgumentException" */
    private static void promise10RefusedRegisters() {
        for (int r : MISSING) {
            SCENE.refuses("root to " + r, ARGUMENT, works -> works.root(r, 1, 2));
            SCENE.refuses("root of " + r, ARGUMENT, works -> works.root(7, r, 2));
            SCENE.refuses("root 1 of " + r, ARGUMENT, works -> works.root(7, r, 1));
            SCENE.refuses("root 41 of " + r, ARGUMENT, works -> works.root(7, r, 41));
        }
    }
}
