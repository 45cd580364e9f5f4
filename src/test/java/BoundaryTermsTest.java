import java.math.BigInteger;
import java.util.List;
import java.util.NoSuchElementException;
import java.util.function.IntFunction;

/** The terms' sentences that name a boundary case; each stands above its test. */
public final class BoundaryTermsTest {
    private static final Class<IllegalArgumentException> ARGUMENT = IllegalArgumentException.class;
    private static final Class<IllegalStateException> STATE = IllegalStateException.class;
    private static final Class<ArithmeticException> ARITHMETIC = ArithmeticException.class;
    private static final int[] MISSING = {-1, 10, Integer.MIN_VALUE, Integer.MAX_VALUE};

    /** Small numbers, all of them different; digits on the tape and in out. */
    private static final Scene SMALL = small();

    /** Numbers at which a call comes to its limit; more than 200000 bits with most of the others. */
    private static final Scene LARGE = new Scene().with(1, 1).with(2, power2(200000).subtract(BigInteger.ONE))
            .with(3, power2(199999)).with(4, power2(100000).subtract(BigInteger.ONE)).with(5, power2(100000))
            .with(6, power2(2000).subtract(BigInteger.ONE)).with(7, 77).with(8, power2(2000)).with(9, 5)
            .withTape("120z9").withOut("face9");

    /** A call that names a register in one of its places. */
    private interface Use {
        long on(LimbWorks works, int register);
    }

    private record Due(long answer, Scene after) {
    }

    private record Place(String name, Use use, IntFunction<Due> due) {
    }

    private static final List<Place> PLACES = List.of(
            new Place("set(r, 5)", (works, r) -> works.set(r, 5), r -> become(r, 5)),
            new Place("copy(r, 4)", (works, r) -> works.copy(r, 4), r -> become(r, 14)),
            new Place("copy(4, r)", (works, r) -> works.copy(4, r), r -> become(4, small(r))),
            new Place("shift(r, 4, 1)", (works, r) -> works.shift(r, 4, 1), r -> become(r, 28)),
            new Place("shift(4, r, 1)", (works, r) -> works.shift(4, r, 1), r -> become(4, 2 * small(r))),
            new Place("add(r, 4, 5)", (works, r) -> works.add(r, 4, 5), r -> become(r, 31)),
            new Place("add(4, r, 5)", (works, r) -> works.add(4, r, 5), r -> become(4, small(r) + 17)),
            new Place("add(4, 5, r)", (works, r) -> works.add(4, 5, r), r -> become(4, 17 + small(r))),
            new Place("subtract(r, 5, 4)", (works, r) -> works.subtract(r, 5, 4), r -> become(r, 3)),
            new Place("subtract(4, r, 0)", (works, r) -> works.subtract(4, r, 0), r -> become(4, small(r) - 2)),
            new Place("subtract(4, 9, r)", (works, r) -> works.subtract(4, 9, r), r -> become(4, 29 - small(r))),
            new Place("times(r, 4, 5)", (works, r) -> works.times(r, 4, 5), r -> become(r, 238)),
            new Place("times(4, r, 5)", (works, r) -> works.times(4, r, 5), r -> become(4, small(r) * 17)),
            new Place("times(4, 5, r)", (works, r) -> works.times(4, 5, r), r -> become(4, 17 * small(r))),
            new Place("divide(r, 4, 9, 1)", (works, r) -> works.divide(r, 4, 9, 1), r -> become(r, 5, 4, 4)),
            new Place("divide(4, r, 9, 1)", (works, r) -> works.divide(4, r, 9, 1), r -> become(4, 5, r, 4)),
            new Place("divide(4, 5, r, 1)", (works, r) -> works.divide(4, 5, r, 1),
                    r -> become(4, small(r) / 5, 5, small(r) % 5)),
            new Place("divide(4, 5, 9, r)", (works, r) -> works.divide(4, 5, 9, r),
                    r -> become(4, 29 / small(r), 5, 29 % small(r))),
            new Place("power(r, 4, 2)", (works, r) -> works.power(r, 4, 2), r -> become(r, 196)),
            new Place("power(4, r, 2)", (works, r) -> works.power(4, r, 2), r -> become(4, small(r) * small(r))),
            new Place("root(r, 9, 2)", (works, r) -> works.root(r, 9, 2), r -> become(r, 5)),
            new Place("root(4, r, 1)", (works, r) -> works.root(4, r, 1), r -> become(4, small(r))),
            new Place("compare(r, 4)", (works, r) -> works.compare(r, 4), r -> answer(Integer.compare(r, 4))),
            new Place("compare(4, r)", (works, r) -> works.compare(4, r), r -> answer(Integer.compare(4, r))),
            new Place("bits(r)", (works, r) -> works.bits(r), r -> answer(bitsOf(small(r)))),
            new Place("word(r, 0)", (works, r) -> works.word(r, 0), r -> answer(small(r))),
            new Place("read(r, 36)", (works, r) -> works.read(r, 36),
                    r -> new Due(11, SMALL.with(r, 36 * 36 + 2 * 36 + 3).withTape(""))),
            new Place("write(r, 10)", (works, r) -> works.write(r, 10),
                    r -> new Due(small(r) < 10 ? 1 : 2, SMALL.withOut(Long.toString(small(r))))));

    private BoundaryTermsTest() {
    }

    public static void main(String[] args) {
        theScenesStand();
        registers0To9();
        registersNot0To9();
        registersAre0AtFirst();
        bitsAre0For0();
        resultsOf200000Bits();
        resultsOfMoreThan200000Bits();
        tapeAndOutHaveNoneAtFirst();
        tapeUpTo4096();
        orderOfTestingForNumbers();
        orderOfTestingForTapeAndOut();
        oneOrTwoRegistersMayBeTheSame();
        threeRegistersMayBeTheSame();
        fourRegistersMayBeTheSame();
        refusedWithTheSameRegisters();
        calls512();
        Checks.finish("BoundaryTermsTest");
    }

    private static BigInteger power2(int n) {
        return BigInteger.ONE.shiftLeft(n);
    }

    private static long small(int register) {
        return 3 * register + 2;
    }

    private static Scene small() {
        Scene scene = new Scene().withTape("123").withOut("zebra");
        for (int r = 0; r < 10; r++) {
            scene = scene.with(r, small(r));
        }
        return scene;
    }

    private static int bitsOf(long x) {
        return BigInteger.valueOf(x).bitLength();
    }

    private static Due answer(long x) {
        return new Due(x, SMALL);
    }

    private static Due become(int register, long x) {
        return new Due(bitsOf(x), SMALL.with(register, x));
    }

    /** What is left comes last: it stays if both come to the same register. */
    private static Due become(int quotient, long x, int rest, long y) {
        return new Due(bitsOf(x), SMALL.with(quotient, x).with(rest, y));
    }

    private static void theScenesStand() {
        SMALL.check("making small numbers", SMALL.make());
        LARGE.check("making large numbers", LARGE.make());
    }

    /** "REGISTERS 0 .. 9 have a natural number each": each is taken wherever a call names one. */
    private static void registers0To9() {
        for (Place place : PLACES) {
            for (int r = 0; r < 10; r++) {
                int register = r;
                Due due = place.due().apply(r);
                SMALL.takes(place.name() + ", r " + r, due.answer(), due.after(),
                        works -> place.use().on(works, register));
            }
        }
    }

    /** "IllegalArgumentException: a register not 0 .. 9": none other is taken, wherever a call names one. */
    private static void registersNot0To9() {
        for (Place place : PLACES) {
            for (int r : MISSING) {
                SMALL.refuses(place.name() + ", r " + r, ARGUMENT, works -> place.use().on(works, r));
            }
        }
    }

    /** "0 at first." */
    private static void registersAre0AtFirst() {
        for (int r = 0; r < 10; r++) {
            LimbWorks works = new LimbWorks();
            int register = r;
            Checks.due("bits of a new register " + r, 0, () -> works.bits(register));
            Checks.due("a new register " + r + " is 0", 0, () -> works.compare(register, (register + 1) % 10));
            Checks.due("a new register " + r + " is written", 1, () -> works.write(register, 10));
            Checks.due("a new register " + r + " is written", '0', () -> works.octet(0));
        }
    }

    /** "BITS: how many a number has, 0 for 0". */
    private static void bitsAre0For0() {
        Scene scene = LARGE;
        scene.answers("bits of 0", 0, works -> works.bits(0));
        scene.answers("bits of 1", 1, works -> works.bits(1));
        scene.answers("bits of the greatest", 200000, works -> works.bits(2));
        scene.answers("bits of 2^199999", 200000, works -> works.bits(3));
        scene.becomes("bits of 0 when it is set", 7, 0, works -> works.set(7, 0));
        scene.becomes("bits of 0 when it is copied", 7, 0, works -> works.copy(7, 0));
        scene.becomes("bits of 0 when it is shifted", 7, 0, works -> works.shift(7, 0, 1));
        scene.becomes("bits of 0 when nothing is added", 7, 0, works -> works.add(7, 0, 0));
        scene.becomes("bits of 0 when all is subtracted", 7, 0, works -> works.subtract(7, 2, 2));
        scene.becomes("bits of 0 when it is multiplied", 7, 0, works -> works.times(7, 0, 2));
        scene.takes("bits of 0 when it is divided", 0, scene.with(7, 0).with(8, 0), works -> works.divide(7, 8, 0, 2));
        scene.becomes("bits of 0 when it is raised", 7, 0, works -> works.power(7, 0, 3));
        scene.becomes("bits of 0 when its root is taken", 7, 0, works -> works.root(7, 0, 3));
        Scene noughts = scene.withTape("000");
        noughts.takes("bits of 0 when it is read", 0, noughts.with(7, 0).withTape(""), works -> works.read(7, 10));
    }

    /** "a result of more than 200000 bits is refused": one of 200000 bits is taken. */
    private static void resultsOf200000Bits() {
        BigInteger greatest = LARGE.value(2);
        Scene next = LARGE.with(7, greatest.subtract(BigInteger.ONE));
        LARGE.becomes("shift to 200000 bits", 7, power2(199999), works -> works.shift(7, 1, 199999));
        next.becomes("add up to 200000 bits", 8, greatest, works -> works.add(8, 7, 1));
        LARGE.becomes("times to 200000 bits", 7, LARGE.value(4).pow(2), works -> works.times(7, 4, 4));
        LARGE.becomes("power to 200000 bits", 7, LARGE.value(6).pow(100), works -> works.power(7, 6, 100));
        LARGE.becomes("copy of 200000 bits", 7, greatest, works -> works.copy(7, 2));
        LARGE.becomes("subtract nothing from 200000 bits", 7, greatest, works -> works.subtract(7, 2, 0));
        LARGE.takes("divide 200000 bits by 1", 200000, LARGE.with(7, greatest).with(8, 0),
                works -> works.divide(7, 8, 2, 1));
        LARGE.becomes("root 1 of 200000 bits", 7, greatest, works -> works.root(7, 2, 1));
    }

    /** "a result of more than 200000 bits is refused". */
    private static void resultsOfMoreThan200000Bits() {
        LARGE.refuses("shift to 200001 bits", STATE, works -> works.shift(7, 1, 200000));
        LARGE.refuses("add up to 200001 bits", STATE, works -> works.add(7, 2, 1));
        LARGE.refuses("times to 200001 bits", STATE, works -> works.times(7, 5, 5));
        LARGE.refuses("power to 200001 bits", STATE, works -> works.power(7, 8, 100));
    }

    /** "THE TAPE and OUT have bytes, none at first". */
    private static void tapeAndOutHaveNoneAtFirst() {
        new Scene().check("a new object", new LimbWorks());
        new Scene().refuses("end(1) at first", ARGUMENT, works -> works.end(1));
        new Scene().answers("end(0) at first", 0, works -> works.end(0));
        new Scene().refuses("octet(0) at first", NoSuchElementException.class, works -> works.octet(0));
    }

    /** "the tape up to 4096." */
    private static void tapeUpTo4096() {
        String digits = "9876543210abcdefghij".repeat(205);
        Scene room = SMALL.withTape(digits.substring(0, 4076));
        Scene full = SMALL.withTape(digits.substring(0, 4076) + "9876543210abcdefghij");
        Scene short1 = SMALL.withTape(digits.substring(0, 4077));
        room.takes("feed to 4096", 0, full, BoundaryTermsTest::feedTwenty);
        short1.refuses("feed to 4097", STATE, BoundaryTermsTest::feedTwenty);
        full.refuses("feed to 4116", STATE, BoundaryTermsTest::feedTwenty);
    }

    private static long feedTwenty(LimbWorks works) {
        works.feed(0x39383736, 0x35343332, 0x31306162, 0x63646566, 0x6768696A);
        return 0;
    }

    /** "What is thrown is told in the order of testing." The arguments come before the numbers they lead to. */
    private static void orderOfTestingForNumbers() {
        for (int r : MISSING) {
            LARGE.refuses("shift to " + r + " of too many bits", ARGUMENT, works -> works.shift(r, 2, 1));
            LARGE.refuses("add to " + r + " of too many bits", ARGUMENT, works -> works.add(r, 2, 2));
            LARGE.refuses("subtract to " + r + " of a greater one", ARGUMENT, works -> works.subtract(r, 0, 1));
            LARGE.refuses("times to " + r + " of too many bits", ARGUMENT, works -> works.times(r, 2, 2));
            LARGE.refuses("divide by 0 to " + r, ARGUMENT, works -> works.divide(r, 7, 1, 0));
            LARGE.refuses("divide by 0 with the rest to " + r, ARGUMENT, works -> works.divide(7, r, 1, 0));
            LARGE.refuses("divide " + r + " by 0", ARGUMENT, works -> works.divide(7, 8, r, 0));
            LARGE.refuses("power to " + r + " of too many bits", ARGUMENT, works -> works.power(r, 2, 100));
            LARGE.refuses("power to " + r + " of too much", ARGUMENT, works -> works.power(r, 2, 101));
        }
        for (int n : new int[] {-200001, 200001, Integer.MIN_VALUE, Integer.MAX_VALUE}) {
            LARGE.refuses("shift of the greatest by " + n, ARGUMENT, works -> works.shift(7, 2, n));
        }
        for (int n : new int[] {-1, 101, Integer.MIN_VALUE, Integer.MAX_VALUE}) {
            LARGE.refuses("power " + n + " of the greatest", ARGUMENT, works -> works.power(7, 2, n));
        }
    }

    /** "What is thrown is told in the order of testing." */
    private static void orderOfTestingForTapeAndOut() {
        Scene noDigit = LARGE.withTape("12$");
        for (int r : MISSING) {
            noDigit.refuses("read what is no digit to " + r, ARGUMENT, works -> works.read(r, 10));
            noDigit.refuses("read what is no digit of base 37 to " + r, ARGUMENT, works -> works.read(r, 37));
        }
        for (int base : new int[] {1, 37, 0, -1, Integer.MIN_VALUE, Integer.MAX_VALUE}) {
            noDigit.refuses("read what is no digit in base " + base, ARGUMENT, works -> works.read(7, base));
            LARGE.refuses("write the greatest in base " + base, ARGUMENT, works -> works.write(2, base));
        }
    }

    /** "Registers named in a call may be the same." */
    private static void oneOrTwoRegistersMayBeTheSame() {
        Scene scene = longNumbers();
        for (int r = 0; r < 3; r++) {
            for (int a = 0; a < 3; a++) {
                int to = r;
                int from = a;
                String name = "(" + r + ", " + a + ")";
                BigInteger x = scene.value(a);
                scene.becomes("copy" + name, r, x, works -> works.copy(to, from));
                scene.becomes("shift up" + name, r, x.shiftLeft(77), works -> works.shift(to, from, 77));
                scene.becomes("shift down" + name, r, x.shiftRight(77), works -> works.shift(to, from, -77));
                scene.becomes("power" + name, r, x.pow(11), works -> works.power(to, from, 11));
                scene.becomes("power 1" + name, r, x, works -> works.power(to, from, 1));
                scene.becomes("power 0" + name, r, 1, works -> works.power(to, from, 0));
                scene.becomes("root" + name, r, Numbers.root(x, 3), works -> works.root(to, from, 3));
                scene.becomes("root 1" + name, r, x, works -> works.root(to, from, 1));
                scene.answers("compare" + name, scene.value(r).compareTo(x), works -> works.compare(to, from));
            }
        }
    }

    /** "Registers named in a call may be the same." */
    private static void threeRegistersMayBeTheSame() {
        Scene scene = longNumbers();
        for (int i = 0; i < 27; i++) {
            int r = i / 9;
            int a = i / 3 % 3;
            int b = i % 3;
            String name = "(" + r + ", " + a + ", " + b + ")";
            BigInteger x = scene.value(a);
            BigInteger y = scene.value(b);
            scene.becomes("add" + name, r, x.add(y), works -> works.add(r, a, b));
            scene.becomes("times" + name, r, x.multiply(y), works -> works.times(r, a, b));
            if (x.compareTo(y) < 0) {
                scene.refuses("subtract" + name, ARITHMETIC, works -> works.subtract(r, a, b));
            } else {
                scene.becomes("subtract" + name, r, x.subtract(y), works -> works.subtract(r, a, b));
            }
        }
    }

    /** "Registers named in a call may be the same." */
    private static void fourRegistersMayBeTheSame() {
        Scene scene = longNumbers();
        for (int i = 0; i < 256; i++) {
            int q = i / 64;
            int r = i / 16 % 4;
            int a = i / 4 % 4;
            int b = i % 4;
            BigInteger[] due = scene.value(a).divideAndRemainder(scene.value(b));
            scene.takes("divide(" + q + ", " + r + ", " + a + ", " + b + ")", due[0].bitLength(),
                    scene.with(q, due[0]).with(r, due[1]), works -> works.divide(q, r, a, b));
        }
    }

    /** "Registers named in a call may be the same.", and "A call that throws changes nothing but what is told." */
    private static void refusedWithTheSameRegisters() {
        LARGE.refuses("shift the greatest in place", STATE, works -> works.shift(2, 2, 1));
        LARGE.refuses("add the greatest to itself", STATE, works -> works.add(2, 2, 2));
        LARGE.refuses("add 2^199999 to itself", STATE, works -> works.add(3, 3, 3));
        LARGE.refuses("subtract in place from less", ARITHMETIC, works -> works.subtract(1, 1, 2));
        LARGE.refuses("subtract from less in its own place", ARITHMETIC, works -> works.subtract(2, 1, 2));
        LARGE.refuses("square 2^100000 in place", STATE, works -> works.times(5, 5, 5));
        LARGE.refuses("divide 0 by 0 in place", ARITHMETIC, works -> works.divide(0, 0, 0, 0));
        LARGE.refuses("divide by 0 in place", ARITHMETIC, works -> works.divide(2, 2, 2, 0));
        LARGE.refuses("power of the greatest in place", STATE, works -> works.power(2, 2, 2));
    }

    /** Numbers of some words, the last one of a single word. */
    private static Scene longNumbers() {
        return new Scene().with(0, BigInteger.TEN.pow(100).add(BigInteger.TWO))
                .with(1, power2(192).subtract(BigInteger.ONE)).with(2, power2(301)).with(3, 0xFFFFFFFFL)
                .withTape("z0").withOut("a0");
    }

    /** "An object is used for at most 512 calls after it has been made". */
    private static void calls512() {
        LimbWorks works = new LimbWorks();
        works.set(1, 0xFFFFFFFFL);
        for (int i = 2; i < 512; i++) {
            works.add(0, 0, 1);
        }
        Checks.due("the 512th call", 0xFFFFFFFFL * 510 >>> 32, () -> works.word(0, 1));
    }
}
