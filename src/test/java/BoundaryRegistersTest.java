import java.math.BigInteger;

/** The boundary cases of promises 1, 2, 3, 11, 12 and 13; the sentence that names each stands above its test. */
public final class BoundaryRegistersTest {
    private static final Class<IllegalArgumentException> ARGUMENT = IllegalArgumentException.class;
    private static final int[] MISSING = {-1, 10, Integer.MIN_VALUE, Integer.MAX_VALUE};
    private static final BigInteger GREATEST = power2(200000).subtract(BigInteger.ONE);

    private static final Scene SCENE = new Scene().with(1, 1).with(2, GREATEST).with(3, power2(199999))
            .with(4, power2(64).subtract(BigInteger.ONE)).with(5, power2(64)).with(7, 77).with(9, 0xFFFFFFFFL)
            .withTape("0zz1").withOut("limb");

    /** Numbers where a word or the last of the bits comes in or a word's highest bit is set, each with its bits. */
    private static final int[] EDGES = {1, 2, 31, 32, 33, 63, 64, 65, 95, 96, 97, 199967, 199968, 199969, 199999};

    private BoundaryRegistersTest() {
    }

    public static void main(String[] args) {
        promise1StateOfTheTerms();
        promise1FirstCalls();
        promise2ValueWithoutASign();
        promise2SetOverTheGreatest();
        promise2RefusedRegisters();
        promise3CopyOfTheLeastAndTheGreatest();
        promise3RefusedRegisters();
        promise11LessTheSameOrGreater();
        promise11SameNumberOfWords();
        promise11RefusedRegisters();
        promise12BitsAtEveryEdge();
        promise12RefusedRegisters();
        promise13FirstAndLastWord();
        promise13WordsWithoutASign();
        promise13WordsAboveTheNumber();
        promise13RefusedWords();
        promise13RefusedRegisters();
        Checks.finish("BoundaryRegistersTest");
    }

    private static BigInteger power2(int n) {
        return BigInteger.ONE.shiftLeft(n);
    }

    /** "makes an object in the state that the terms give." */
    private static void promise1StateOfTheTerms() {
        LimbWorks used = SCENE.make();
        new Scene().check("a new object beside a used one", new LimbWorks());
        SCENE.check("an object beside a new one", used);
    }

    /** "makes an object in the state that the terms give.": each call takes its registers for 0, its tape for empty. */
    private static void promise1FirstCalls() {
        first("set", "0", new Scene(), works -> works.set(0, 0));
        first("copy", "0", new Scene(), works -> works.copy(9, 0));
        first("shift", "0", new Scene(), works -> works.shift(9, 0, 200000));
        first("shift down", "0", new Scene(), works -> works.shift(9, 0, -1));
        first("add", "0", new Scene(), works -> works.add(9, 0, 1));
        first("subtract", "0", new Scene(), works -> works.subtract(9, 0, 1));
        first("times", "0", new Scene(), works -> works.times(9, 0, 1));
        first("divide", "ArithmeticException", new Scene(), works -> works.divide(9, 8, 0, 1));
        first("power", "0", new Scene(), works -> works.power(9, 0, 1));
        first("power 0", "1", new Scene().with(9, 1), works -> works.power(9, 0, 0));
        first("root", "0", new Scene(), works -> works.root(9, 0, 2));
        first("compare", "0", new Scene(), works -> works.compare(9, 0));
        first("bits", "0", new Scene(), works -> works.bits(9));
        first("word", "0", new Scene(), works -> works.word(9, 6249));
        first("end", "0", new Scene(), works -> works.end(0));
        first("end", "IllegalArgumentException", new Scene(), works -> works.end(1));
        first("read", "0", new Scene(), works -> works.read(9, 2));
        first("write", "1", new Scene().withOut("0"), works -> works.write(9, 2));
        first("octet", "NoSuchElementException", new Scene(), works -> works.octet(0));
    }

    private static void first(String what, String outcome, Scene after, Scene.Call call) {
        LimbWorks works = new LimbWorks();
        Checks.same(what + " comes first", outcome, Checks.outcome(() -> call.on(works)));
        after.check(what + " comes first", works);
        LimbWorks other = new LimbWorks();
        other.set(1, 0);
        Checks.same(what + " comes behind set to 0", outcome, Checks.outcome(() -> call.on(other)));
        Checks.due("a register is as one set to 0", 0, () -> other.compare(1, 7));
    }

    /** "value, taken as 64 bits without a sign; answers its bits." */
    private static void promise2ValueWithoutASign() {
        long[] values = {0, 1, 0x7FFFFFFFL, 0x80000000L, 0xFFFFFFFFL, 0x100000000L, Long.MAX_VALUE, Long.MIN_VALUE,
            Long.MIN_VALUE + 1, -2, -1};
        for (long value : values) {
            BigInteger due = new BigInteger(Long.toUnsignedString(value));
            SCENE.becomes("set to " + value, 0, due, works -> works.set(0, value));
            SCENE.becomes("set to " + value, 9, due, works -> works.set(9, value));
        }
    }

    /** "A register becomes value": nothing of a longer number stays. */
    private static void promise2SetOverTheGreatest() {
        SCENE.becomes("set the greatest to 0", 2, 0, works -> works.set(2, 0));
        SCENE.becomes("set the greatest to 1", 2, 1, works -> works.set(2, 1));
        SCENE.becomes("set the greatest to 2^64 - 1", 2, SCENE.value(4), works -> works.set(2, -1));
        LimbWorks works = SCENE.make();
        works.set(2, 5);
        for (int k : new int[] {1, 2, 3, 6249}) {
            Checks.due("word " + k + " of the greatest set to 5", 0, () -> works.word(2, k));
        }
    }

    /** "throws IllegalArgumentException" */
    private static void promise2RefusedRegisters() {
        for (int r : MISSING) {
            SCENE.refuses("set register " + r, ARGUMENT, works -> works.set(r, 0));
            SCENE.refuses("set register " + r, ARGUMENT, works -> works.set(r, -1));
        }
    }

    /** "A register becomes a; answers its bits." */
    private static void promise3CopyOfTheLeastAndTheGreatest() {
        SCENE.becomes("copy 0 over the greatest", 2, 0, works -> works.copy(2, 0));
        SCENE.becomes("copy 1 over the greatest", 2, 1, works -> works.copy(2, 1));
        SCENE.becomes("copy the greatest over 0", 0, GREATEST, works -> works.copy(0, 2));
        SCENE.becomes("copy the greatest to the last", 9, GREATEST, works -> works.copy(9, 2));
        SCENE.becomes("copy the last to the first", 0, 0xFFFFFFFFL, works -> works.copy(0, 9));
        SCENE.becomes("copy the greatest to itself", 2, GREATEST, works -> works.copy(2, 2));
        SCENE.becomes("copy 0 to itself", 0, 0, works -> works.copy(0, 0));
    }

    /** "throws IllegalArgumentException" */
    private static void promise3RefusedRegisters() {
        for (int r : MISSING) {
            SCENE.refuses("copy to " + r, ARGUMENT, works -> works.copy(r, 1));
            SCENE.refuses("copy from " + r, ARGUMENT, works -> works.copy(1, r));
            SCENE.refuses("copy from and to " + r, ARGUMENT, works -> works.copy(r, r));
        }
    }

    /** "-1, 0 or 1: a is less than b, the same, or greater." */
    private static void promise11LessTheSameOrGreater() {
        for (int bits : EDGES) {
            BigInteger power = power2(bits);
            compareNeighbours("2^" + bits + " - 1", power.subtract(BigInteger.ONE));
            compareNeighbours("2^" + bits, power);
        }
        compareNeighbours("0", BigInteger.ZERO);
        compareNeighbours("the greatest but one", GREATEST.subtract(BigInteger.ONE));
        SCENE.answers("compare 0 with the greatest", -1, works -> works.compare(0, 2));
        SCENE.answers("compare the greatest with 0", 1, works -> works.compare(2, 0));
        SCENE.answers("compare 0 with 0", 0, works -> works.compare(0, 6));
        SCENE.answers("compare a register with itself", 0, works -> works.compare(2, 2));
    }

    private static void compareNeighbours(String name, BigInteger x) {
        Scene scene = new Scene().with(1, x).with(2, x).with(3, x.add(BigInteger.ONE));
        scene.answers("compare " + name + " with the next", -1, works -> works.compare(1, 3));
        scene.answers("compare " + name + " with the same", 0, works -> works.compare(1, 2));
        scene.answers("compare the next with " + name, 1, works -> works.compare(3, 2));
    }

    /** "-1, 0 or 1: a is less than b, the same, or greater.": the highest word that differs tells, without a sign. */
    private static void promise11SameNumberOfWords() {
        BigInteger high = power2(95);
        Scene scene = new Scene().with(1, high).with(2, high.add(BigInteger.valueOf(0xFFFFFFFFL)))
                .with(3, high.add(power2(32))).with(4, power2(94).add(BigInteger.valueOf(0xFFFFFFFFFFL)))
                .with(5, high.add(power2(63)));
        int[] rising = {4, 1, 2, 3, 5};
        for (int i = 0; i < rising.length; i++) {
            for (int j = 0; j < rising.length; j++) {
                int a = rising[i];
                int b = rising[j];
                scene.answers("compare(" + a + ", " + b + ")", Integer.compare(i, j), works -> works.compare(a, b));
            }
        }
    }

    /** "throws IllegalArgumentException" */
    private static void promise11RefusedRegisters() {
        for (int r : MISSING) {
            SCENE.refuses("compare " + r, ARGUMENT, works -> works.compare(r, 1));
            SCENE.refuses("compare with " + r, ARGUMENT, works -> works.compare(1, r));
            SCENE.refuses("compare " + r + " with itself", ARGUMENT, works -> works.compare(r, r));
        }
    }

    /** "The bits of a register." */
    private static void promise12BitsAtEveryEdge() {
        for (int bits : EDGES) {
            Scene scene = new Scene().with(0, power2(bits).subtract(BigInteger.ONE)).with(8, power2(bits));
            scene.answers("bits of 2^" + bits + " - 1", bits, works -> works.bits(0));
            scene.answers("bits of 2^" + bits, bits + 1, works -> works.bits(8));
        }
        SCENE.answers("bits of 0", 0, works -> works.bits(0));
        SCENE.answers("bits of 1", 1, works -> works.bits(1));
        SCENE.answers("bits of the greatest", 200000, works -> works.bits(2));
        SCENE.answers("bits of the last register", 32, works -> works.bits(9));
    }

    /** "throws IllegalArgumentException" */
    private static void promise12RefusedRegisters() {
        for (int r : MISSING) {
            SCENE.refuses("bits of " + r, ARGUMENT, works -> works.bits(r));
        }
    }

    /** "The 32 bits of a register from 32 k on (k 0 .. 6249)": the first and the last are taken. */
    private static void promise13FirstAndLastWord() {
        BigInteger x = power2(199968).multiply(BigInteger.valueOf(0x87654321L)).add(BigInteger.valueOf(0x12345678L));
        Scene scene = SCENE.with(0, x);
        scene.answers("the first word", 0x12345678L, works -> works.word(0, 0));
        scene.answers("the second word", 0, works -> works.word(0, 1));
        scene.answers("the last word but one", 0, works -> works.word(0, 6248));
        scene.answers("the last word", 0x87654321L, works -> works.word(0, 6249));
    }

    /** "0 .. 2^32 - 1." */
    private static void promise13WordsWithoutASign() {
        for (int k : new int[] {0, 1, 3124, 6248, 6249}) {
            SCENE.answers("word " + k + " of the greatest", 0xFFFFFFFFL, works -> works.word(2, k));
        }
        SCENE.answers("word 6249 of 2^199999", 0x80000000L, works -> works.word(3, 6249));
        SCENE.answers("word 0 of 2^199999", 0, works -> works.word(3, 0));
        SCENE.answers("word 0 of 0", 0, works -> works.word(0, 0));
    }

    /** "The 32 bits of a register from 32 k on": above a number they are 0, whatever was there before. */
    private static void promise13WordsAboveTheNumber() {
        SCENE.answers("word 1 of 2^64 - 1", 0xFFFFFFFFL, works -> works.word(4, 1));
        SCENE.answers("word 2 of 2^64 - 1", 0, works -> works.word(4, 2));
        SCENE.answers("word 2 of 2^64", 1, works -> works.word(5, 2));
        SCENE.answers("word 3 of 2^64", 0, works -> works.word(5, 3));
        SCENE.answers("word 6249 of 2^64", 0, works -> works.word(5, 6249));
        SCENE.answers("word 6249 of 0", 0, works -> works.word(0, 6249));
        LimbWorks works = SCENE.make();
        works.shift(2, 2, -199999);
        Checks.due("word 0 of what was the greatest", 1, () -> works.word(2, 0));
        Checks.due("word 1 of what was the greatest", 0, () -> works.word(2, 1));
        Checks.due("word 6249 of what was the greatest", 0, () -> works.word(2, 6249));
    }

    /** "k 0 .. 6249": no other is taken. */
    private static void promise13RefusedWords() {
        for (int k : new int[] {-1, 6250, 6251, Integer.MIN_VALUE, Integer.MAX_VALUE}) {
            SCENE.refuses("word " + k + " of the greatest", ARGUMENT, works -> works.word(2, k));
            SCENE.refuses("word " + k + " of 0", ARGUMENT, works -> works.word(0, k));
        }
    }

    /** "throws IllegalArgumentException" */
    private static void promise13RefusedRegisters() {
        for (int r : MISSING) {
            SCENE.refuses("word 0 of " + r, ARGUMENT, works -> works.word(r, 0));
            SCENE.refuses("word 6249 of " + r, ARGUMENT, works -> works.word(r, 6249));
            SCENE.refuses("word 6250 of " + r, ARGUMENT, works -> works.word(r, 6250));
        }
    }
}
