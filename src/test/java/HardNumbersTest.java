import java.math.BigInteger;
import java.util.Random;

/**
 * Promises 7 to 10 where the ways of working them out change or correct themselves: lengths about the halved products
 * and quotients, divisors whose highest words mislead, roots next to whole powers.
 */
public final class HardNumbersTest {
    private static final int[] WORDS = {1, 2, 3, 39, 40, 41, 79, 80, 81, 82, 119, 159, 160, 161, 162, 239, 320, 323,
        641, 1000, 1600, 2500, 3125};
    private static final long[] EXTREME_WORDS = {0, 1, 2, 0x7FFFFFFFL, 0x80000000L, 0x80000001L, 0xFFFFFFFEL,
        0xFFFFFFFFL};

    private final Random random = new Random(20261115);
    private final LimbWorks works = new LimbWorks();

    private HardNumbersTest() {
    }

    public static void main(String[] args) {
        HardNumbersTest test = new HardNumbersTest();
        test.productsOfAllLengths();
        test.quotientsOfAllLengths();
        test.quotientsOfMisleadingDivisors();
        test.quotientsFarTooMuch();
        test.quotientsOfExtremeWords();
        test.quotientsOfTwoWords();
        test.quotientsOfShortNumbers();
        test.powersOfAllLengths();
        test.rootsNextToPowers();
        Checks.finish("HardNumbersTest");
    }

    private void holds(String what, int register, BigInteger due) {
        Checks.same(what, due, Numbers.value(works, register));
    }

    /** A number whose highest word is not 0. */
    private BigInteger ofWords(int words, int kind) {
        int idle = kind < 3 ? 0 : kind == 3 ? 31 : random.nextInt(32);
        return ofBits(32 * words - idle, kind);
    }

    private BigInteger ofBits(int bits, int kind) {
        switch (kind) {
            case 0:
                return BigInteger.ONE.shiftLeft(bits).subtract(BigInteger.ONE);
            case 1:
                return BigInteger.ONE.shiftLeft(bits - 1);
            case 2:
            case 3:
                return Numbers.runs(random, bits).setBit(bits - 1);
            default:
                return new BigInteger(bits, random).setBit(bits - 1);
        }
    }

    private void productsOfAllLengths() {
        for (int an : WORDS) {
            for (int bn : WORDS) {
                BigInteger a = ofWords(an, random.nextInt(5));
                BigInteger b = ofWords(bn, random.nextInt(5));
                Numbers.plant(works, 0, 9, a);
                Numbers.plant(works, 1, 9, b);
                checkProduct(a, b);
            }
            for (int kind = 0; kind < 5; kind++) {
                BigInteger a = ofWords(an, kind);
                Numbers.plant(works, 0, 9, a);
                Checks.due("square of " + an, a.multiply(a).bitLength(), () -> works.times(2, 0, 0));
                holds("square of " + an, 2, a.multiply(a));
            }
        }
        for (int an = 20; an < 6250; an += 1 + an / 12) {
            BigInteger a = ofWords(an, 4);
            BigInteger b = ofWords(6250 - an, random.nextInt(5));
            Numbers.plant(works, 0, 9, a);
            Numbers.plant(works, 1, 9, b);
            checkProduct(a, b);
        }
    }

    private void checkProduct(BigInteger a, BigInteger b) {
        String name = "times of " + a.bitLength() + " and " + b.bitLength() + " bits";
        Checks.due(name, a.multiply(b).bitLength(), () -> works.times(2, 0, 1));
        holds(name, 2, a.multiply(b));
        Checks.due(name, a.multiply(b).bitLength(), () -> works.times(2, 1, 0));
        holds(name, 2, a.multiply(b));
    }

    private void checkQuotient(BigInteger a, BigInteger b) {
        Numbers.plant(works, 0, 9, a);
        Numbers.plant(works, 1, 9, b);
        BigInteger[] due = a.divideAndRemainder(b);
        String name = "divide of " + a.bitLength() + " by " + b.bitLength() + " bits";
        Checks.due(name, due[0].bitLength(), () -> works.divide(2, 3, 0, 1));
        holds(name + ": quotient", 2, due[0]);
        holds(name + ": rest", 3, due[1]);
    }

    private void quotientsOfAllLengths() {
        for (int dn : WORDS) {
            for (int qn : WORDS) {
                if (dn + qn <= 6250) {
                    checkQuotient(ofWords(dn + qn, random.nextInt(5)), ofWords(dn, random.nextInt(5)));
                    checkQuotientOfProduct(dn, qn);
                }
            }
        }
        for (int dn = 1; dn < 6250; dn += 1 + dn / 9) {
            checkQuotient(ofWords(6250, random.nextInt(5)), ofWords(dn, random.nextInt(5)));
        }
    }

    /** A quotient that is whole, or just not: the guesses from the highest words are then often too much. */
    private void checkQuotientOfProduct(int dn, int qn) {
        BigInteger d = ofWords(dn, random.nextInt(5));
        BigInteger q = ofWords(qn, random.nextInt(5));
        BigInteger a = d.multiply(q);
        checkQuotient(a, d);
        checkQuotient(a.subtract(BigInteger.ONE), d);
        checkQuotient(a.add(d).subtract(BigInteger.ONE), d);
    }

    /** Divisors that begin with 100..0 and go on with ones, under dividends that begin as they do. */
    private void quotientsOfMisleadingDivisors() {
        for (int round = 0; round < 400; round++) {
            int dn = 2 + random.nextInt(round % 4 == 0 ? 400 : 6);
            int head = 1 + random.nextInt(32 * dn - 1);
            BigInteger ones = BigInteger.ONE.shiftLeft(32 * dn - head).subtract(BigInteger.ONE);
            BigInteger d = BigInteger.ONE.shiftLeft(32 * dn - 1 - random.nextInt(2)).or(ones);
            int qn = 1 + random.nextInt(round % 4 == 0 ? 400 : 6);
            BigInteger q = ofWords(qn, random.nextInt(5));
            BigInteger same = d.shiftLeft(32 * qn).subtract(BigInteger.ONE.shiftLeft(random.nextInt(32 * qn)));
            checkQuotient(same, d);
            checkQuotient(d.multiply(q).subtract(BigInteger.ONE), d);
            checkQuotient(d.multiply(q).add(d).subtract(BigInteger.ONE), d);
        }
    }

    /**
     * What is left before the last half of the quotient begins with the divisor's upper half, twice, and the divisor's
     * lower half, of a word more, is all ones: its upper half alone gives a quotient as far too much as can be.
     */
    private void quotientsFarTooMuch() {
        for (int half : new int[] {40, 41, 80, 81, 100, 160, 200, 333, 640}) {
            int lower = 32 * half + 32;
            BigInteger upper = BigInteger.ONE.shiftLeft(32 * half - 1).add(new BigInteger(random.nextInt(20), random));
            BigInteger d = upper.add(BigInteger.ONE).shiftLeft(lower).subtract(BigInteger.ONE);
            BigInteger left = upper.shiftLeft(32 * half).add(upper).shiftLeft(lower).add(BigInteger.valueOf(half));
            BigInteger q = new BigInteger(32 * half - 1, random);
            checkQuotient(d.multiply(q).shiftLeft(32 * half).add(left), d);
            BigInteger full = BigInteger.ONE.shiftLeft(32 * half).subtract(BigInteger.ONE);
            checkQuotient(d.multiply(full).shiftLeft(32 * half).add(left), d);
        }
    }

    private void quotientsOfExtremeWords() {
        for (int round = 0; round < 20000; round++) {
            BigInteger d = ofExtremeWords(1 + random.nextInt(5)).add(BigInteger.ONE);
            checkQuotient(ofExtremeWords(1 + random.nextInt(9)), d);
        }
    }

    /** Two words over one, without signs: what the guess of a quotient's word is made of. */
    private void quotientsOfTwoWords() {
        for (int round = 0; round < 20000; round++) {
            long a = random.nextLong() >>> (round % 3 == 0 ? random.nextInt(64) : 0);
            long b = 1 + (random.nextInt() >>> random.nextInt(32) & 0xFFFFFFFFL);
            checkShortQuotient(a, b);
            // Just below, at and behind a whole quotient, odd or even.
            long whole = Long.divideUnsigned(a, b) * b;
            checkShortQuotient(whole, b);
            checkShortQuotient(whole - 1, b);
            checkShortQuotient(whole + b - 1, b);
        }
    }

    private void checkShortQuotient(long a, long b) {
        works.set(0, a);
        works.set(1, b);
        String name = "divide of " + Long.toUnsignedString(a) + " by " + b;
        long quotient = Long.divideUnsigned(a, b);
        Checks.due(name, 64 - Long.numberOfLeadingZeros(quotient), () -> works.divide(2, 3, 0, 1));
        Checks.same(name + ": quotient", quotient, works.word(2, 1) << 32 | works.word(2, 0));
        Checks.same(name + ": rest", Long.remainderUnsigned(a, b), works.word(3, 1) << 32 | works.word(3, 0));
    }

    /** Every dividend of three words over every divisor of two that the words at the edges make. */
    private void quotientsOfShortNumbers() {
        int kinds = EXTREME_WORDS.length;
        for (int i = 0; i < kinds * kinds * kinds; i++) {
            BigInteger a = ofChosenWords(i, 3);
            for (int j = 1; j < kinds * kinds; j++) {
                checkQuotient(a, ofChosenWords(j, 2));
            }
        }
    }

    /** Each digit of a choice, in a base of as many as there are words at the edges, chooses a word. */
    private static BigInteger ofChosenWords(int choice, int count) {
        BigInteger x = BigInteger.ZERO;
        int left = choice;
        for (int i = 0; i < count; i++) {
            x = x.shiftLeft(32).or(BigInteger.valueOf(EXTREME_WORDS[left % EXTREME_WORDS.length]));
            left /= EXTREME_WORDS.length;
        }
        return x;
    }

    private BigInteger ofExtremeWords(int count) {
        BigInteger x = BigInteger.ZERO;
        for (int i = 0; i < count; i++) {
            long word = EXTREME_WORDS[random.nextInt(EXTREME_WORDS.length)];
            x = x.shiftLeft(32).or(BigInteger.valueOf(word));
        }
        return x;
    }

    private void powersOfAllLengths() {
        for (int n = 0; n <= 100; n += 1 + n / 10) {
            for (int bits : new int[] {1, 2, 31, 64, 65, 700, 200000 / Math.max(1, n)}) {
                if (n * bits <= 200000) {
                    BigInteger a = new BigInteger(bits, random).setBit(bits - 1);
                    Numbers.plant(works, 0, 9, a);
                    int exponent = n;
                    String name = "power " + n + " of " + bits + " bits";
                    Checks.due(name, a.pow(n).bitLength(), () -> works.power(2, 0, exponent));
                    holds(name, 2, a.pow(n));
                }
            }
        }
    }

    private void rootsNextToPowers() {
        for (int n = 1; n <= 40; n++) {
            for (int bits = 1; bits * n <= 200000; bits += 1 + bits * 2 / 3) {
                for (int kind : new int[] {0, 1, 2, 4}) {
                    rootsNextTo(ofBits(bits, kind), n);
                }
            }
            for (int round = 0; round < 4; round++) {
                checkRoot(new BigInteger(200000 - random.nextInt(100), random), n);
                checkRoot(Numbers.runs(random, 200000), n);
            }
        }
    }

    private void rootsNextTo(BigInteger root, int n) {
        BigInteger power = root.pow(n);
        checkRootIs(power, n, root);
        checkRootIs(power.subtract(BigInteger.ONE), n, root.subtract(BigInteger.ONE));
        BigInteger last = root.add(BigInteger.ONE).pow(n).subtract(BigInteger.ONE);
        if (last.bitLength() <= Numbers.MOST_BITS) {
            checkRootIs(last, n, root);
        }
    }

    private void checkRoot(BigInteger a, int n) {
        checkRootIs(a, n, Numbers.root(a, n));
    }

    private void checkRootIs(BigInteger a, int n, BigInteger due) {
        Numbers.plant(works, 0, 9, a);
        String name = "root " + n + " of " + a.bitLength() + " bits";
        Checks.due(name, due.bitLength(), () -> works.root(2, 0, n));
        holds(name, 2, due);
    }
}
