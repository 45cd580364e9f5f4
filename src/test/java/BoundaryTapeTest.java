import java.math.BigInteger;
import java.util.NoSuchElementException;

/** The boundary cases of promises 14 to 18; the sentence that names each stands above its test. */
public final class BoundaryTapeTest {
    private static final Class<IllegalArgumentException> ARGUMENT = IllegalArgumentException.class;
    private static final Class<IllegalStateException> STATE = IllegalStateException.class;
    private static final Class<UnsupportedOperationException> UNSUPPORTED = UnsupportedOperationException.class;
    private static final Class<NoSuchElementException> NONE = NoSuchElementException.class;
    private static final int[] MISSING = {-1, 10, Integer.MIN_VALUE, Integer.MAX_VALUE};
    private static final int[] NO_BASES = {1, 37, 0, -1, Integer.MIN_VALUE, Integer.MAX_VALUE};
    private static final BigInteger GREATEST = BigInteger.ONE.shiftLeft(200000).subtract(BigInteger.ONE);
    private static final String DIGITS = "0123456789abcdefghijklmnopqrstuvwxyz";

    private static final Scene SCENE = new Scene().with(1, 1).with(2, GREATEST).with(3, 1000).with(7, 77).with(9, 5)
            .withTape("1001").withOut("face");

    private BoundaryTapeTest() {
    }

    public static void main(String[] args) {
        promise14HighestFirst();
        promise14BytesAbove127();
        promise14UpTo4096();
        promise14MoreThan4096();
        promise15CutToTheFirst();
        promise15TheTapeHasLess();
        promise15Below0();
        promise15OfTheFullTape();
        promise16FirstAndLastBase();
        promise16RefusedBases();
        promise16RefusedRegisters();
        promise16NoDigitsAre0();
        promise16FullTape();
        promise16LettersSmallOrNot();
        promise16NoDigitOfTheBase();
        promise16NoDigitAtAll();
        promise16NoDigitAnywhere();
        promise16TapeIsEmptyThen();
        promise17FirstAndLastBase();
        promise17RefusedBases();
        promise17RefusedRegisters();
        promise17TheFirstDigitIsNot0();
        promise17OneDigitFor0();
        promise17UpTo20000();
        promise17MoreThan20000();
        promise18FirstAndLast();
        promise18ThereIsNone();
        promise18OfACallNotRefused();
        Checks.finish("BoundaryTapeTest");
    }

    private static long feed(LimbWorks works, int word) {
        works.feed(word, word, word, word, word);
        return 0;
    }

    /** What a tape of some length begins with, no two of its neighbours the same. */
    private static String digits(int count) {
        return DIGITS.repeat(count / 36 + 1).substring(36 * (count / 36 + 1) - count);
    }

    private static Scene read(Scene scene, int register, BigInteger x) {
        return scene.with(register, x).withTape("");
    }

    /** "Twenty bytes, five times four, the highest of each first, come to the tape." */
    private static void promise14HighestFirst() {
        SCENE.takes("feed", 0, SCENE.withTape("1001" + "abcdefghijklmnopqrst"), works -> {
            works.feed(0x61626364, 0x65666768, 0x696A6B6C, 0x6D6E6F70, 0x71727374);
            return 0;
        });
        Scene empty = SCENE.withTape("");
        empty.takes("feed an empty tape", 0, empty.withTape("zyxwvutsrqponmlkjihg"), works -> {
            works.feed(0x7A797877, 0x76757473, 0x7271706F, 0x6E6D6C6B, 0x6A696867);
            return 0;
        });
    }

    /** "Twenty bytes": also those whose highest bit is set come as they are, and count. */
    private static void promise14BytesAbove127() {
        for (int word : new int[] {-1, Integer.MIN_VALUE, Integer.MAX_VALUE, 0, 0x80808080, 0x31FF3131}) {
            String four = new String(new char[] {(char) (word >>> 24), (char) (word >>> 16 & 0xFF),
                (char) (word >>> 8 & 0xFF), (char) (word & 0xFF)});
            SCENE.takes("feed " + word, 0, SCENE.withTape("1001" + four.repeat(5)), works -> feed(works, word));
        }
    }

    /** "IllegalStateException: it would have more than 4096.": up to there it is taken. */
    private static void promise14UpTo4096() {
        for (int before : new int[] {4060, 4075, 4076}) {
            Scene scene = SCENE.withTape(digits(before));
            scene.takes("feed behind " + before, 0, SCENE.withTape(digits(before) + "5".repeat(20)),
                    works -> feed(works, 0x35353535));
        }
    }

    /** "IllegalStateException: it would have more than 4096." */
    private static void promise14MoreThan4096() {
        for (int before : new int[] {4077, 4078, 4080, 4095, 4096}) {
            Scene scene = SCENE.withTape(digits(before));
            scene.refuses("feed behind " + before, STATE, works -> feed(works, 0x35353535));
            scene.refuses("feed noughts behind " + before, STATE, works -> feed(works, 0));
        }
    }

    /** "The tape is cut to its first n bytes; answers how many went." */
    private static void promise15CutToTheFirst() {
        Scene scene = SCENE.withTape("a1b2c3");
        for (int n = 0; n <= 6; n++) {
            int count = n;
            scene.takes("end(" + n + ") of 6", 6 - n, scene.withTape("a1b2c3".substring(0, n)),
                    works -> works.end(count));
        }
        Scene empty = SCENE.withTape("");
        empty.answers("end(0) of none", 0, works -> works.end(0));
    }

    /** "IllegalArgumentException: it has less": what it has is taken, one more is not. */
    private static void promise15TheTapeHasLess() {
        Scene scene = SCENE.withTape("a1b2c3");
        for (int n : new int[] {7, 8, 20, 4096, 4097, Integer.MAX_VALUE}) {
            scene.refuses("end(" + n + ") of 6", ARGUMENT, works -> works.end(n));
        }
        SCENE.withTape("").refuses("end(1) of none", ARGUMENT, works -> works.end(1));
        LimbWorks works = scene.make();
        works.end(3);
        Checks.thrown("end(4) of what was cut to 3", ARGUMENT, () -> works.end(4));
        scene.withTape("a1b").check("end(4) of what was cut to 3", works);
    }

    /** "or n is below 0." */
    private static void promise15Below0() {
        for (int n : new int[] {-1, -2, -4096, Integer.MIN_VALUE}) {
            SCENE.refuses("end(" + n + ")", ARGUMENT, works -> works.end(n));
            SCENE.withTape("").refuses("end(" + n + ") of none", ARGUMENT, works -> works.end(n));
        }
    }

    /** "The tape is cut to its first n bytes": all of 4096 too. */
    private static void promise15OfTheFullTape() {
        Scene full = SCENE.withTape(digits(4096));
        full.answers("end(4096) of the full tape", 0, works -> works.end(4096));
        full.refuses("end(4097) of the full tape", ARGUMENT, works -> works.end(4097));
        full.takes("end(4095) of the full tape", 1, SCENE.withTape(digits(4096).substring(0, 4095)),
                works -> works.end(4095));
        full.takes("end(0) of the full tape", 4096, SCENE.withTape(""), works -> works.end(0));
    }

    /** "the number that the tape writes in a base 2 .. 36": the first and the last base, and each between. */
    private static void promise16FirstAndLastBase() {
        for (int base = 2; base <= 36; base++) {
            int b = base;
            String text = "10" + DIGITS.charAt(base - 1) + "01" + DIGITS.charAt(base - 1);
            BigInteger due = new BigInteger(text, base);
            Scene scene = SCENE.withTape(text);
            scene.takes("read in base " + base, due.bitLength(), read(scene, 7, due), works -> works.read(7, b));
        }
    }

    /** "a base 2 .. 36": no other, and the tape stays then. */
    private static void promise16RefusedBases() {
        for (int base : NO_BASES) {
            SCENE.refuses("read in base " + base, ARGUMENT, works -> works.read(7, base));
            SCENE.withTape("0").refuses("read 0 in base " + base, ARGUMENT, works -> works.read(7, base));
            SCENE.withTape("").refuses("read none in base " + base, ARGUMENT, works -> works.read(7, base));
        }
    }

    /** "throws IllegalArgumentException": the tape stays then. */
    private static void promise16RefusedRegisters() {
        for (int r : MISSING) {
            SCENE.refuses("read to " + r, ARGUMENT, works -> works.read(r, 10));
            SCENE.withTape("").refuses("read none to " + r, ARGUMENT, works -> works.read(r, 10));
        }
    }

    /** "none is 0": an empty tape is read as 0. */
    private static void promise16NoDigitsAre0() {
        Scene empty = SCENE.withTape("");
        for (int base : new int[] {2, 10, 36}) {
            empty.takes("read none in base " + base, 0, empty.with(2, 0), works -> works.read(2, base));
        }
        Scene noughts = SCENE.withTape("0");
        noughts.takes("read 0", 0, read(noughts, 2, BigInteger.ZERO), works -> works.read(2, 2));
        Scene many = SCENE.withTape("0".repeat(4096));
        many.takes("read noughts", 0, read(many, 2, BigInteger.ZERO), works -> works.read(2, 36));
        Scene before = SCENE.withTape("0".repeat(4095) + "z");
        before.takes("read noughts and a z", 6, read(before, 2, BigInteger.valueOf(35)), works -> works.read(2, 36));
    }

    /** "A register becomes the number that the tape writes": a full one too, in every base. */
    private static void promise16FullTape() {
        for (int base = 2; base <= 36; base++) {
            int b = base;
            Scene full = SCENE.withTape(String.valueOf(DIGITS.charAt(base - 1)).repeat(4096));
            BigInteger due = BigInteger.valueOf(base).pow(4096).subtract(BigInteger.ONE);
            full.takes("read 4096 digits in base " + base, due.bitLength(), read(full, 0, due),
                    works -> works.read(0, b));
        }
    }

    /** "0 .. 9, then letters, small or not" */
    private static void promise16LettersSmallOrNot() {
        for (int digit = 0; digit < 36; digit++) {
            String text = DIGITS.substring(digit, digit + 1);
            BigInteger due = BigInteger.valueOf(digit);
            int least = Math.max(2, digit + 1);
            for (String octet : new String[] {text, text.toUpperCase(java.util.Locale.ROOT)}) {
                Scene scene = SCENE.withTape(octet);
                scene.takes("read " + octet, due.bitLength(), read(scene, 9, due), works -> works.read(9, least));
                scene.takes("read " + octet, due.bitLength(), read(scene, 9, due), works -> works.read(9, 36));
            }
        }
    }

    /** "UnsupportedOperationException: a byte is no digit of the base": the first digit that is too much. */
    private static void promise16NoDigitOfTheBase() {
        for (int base = 2; base < 36; base++) {
            int b = base;
            String octet = DIGITS.substring(base, base + 1);
            for (String text : new String[] {octet, octet.toUpperCase(java.util.Locale.ROOT)}) {
                Scene scene = SCENE.withTape(text);
                scene.refuses("read " + text + " in base " + base, UNSUPPORTED, scene.withTape(""),
                        works -> works.read(7, b));
            }
        }
    }

    /** "a byte is no digit of the base": those beside the digits and letters, and those above 127. */
    private static void promise16NoDigitAtAll() {
        for (char octet : "/:@[`{\0 +-_.\n\u007F\u0080\u00B0\u00B1\u00C1\u00E1\u00FF".toCharArray()) {
            for (int base : new int[] {2, 10, 36}) {
                Scene scene = SCENE.withTape("1" + octet);
                scene.refuses("read byte " + (int) octet + " in base " + base, UNSUPPORTED, scene.withTape(""),
                        works -> works.read(7, base));
            }
        }
    }

    /** "a byte is no digit of the base": one is enough, wherever it stands. */
    private static void promise16NoDigitAnywhere() {
        for (int length : new int[] {1, 2, 30, 31, 32, 4096}) {
            for (int at : new int[] {0, length / 2, length - 1}) {
                StringBuilder text = new StringBuilder("1".repeat(length));
                text.setCharAt(at, '2');
                Scene scene = SCENE.withTape(text.toString());
                scene.refuses("read 2 at " + at + " of " + length + " in base 2", UNSUPPORTED, scene.withTape(""),
                        works -> works.read(2, 2));
            }
        }
    }

    /** "the tape is empty then, too.": the next bytes are the first. */
    private static void promise16TapeIsEmptyThen() {
        LimbWorks works = SCENE.withTape("12").make();
        Checks.thrown("read 12 in base 2", UNSUPPORTED, () -> works.read(7, 2));
        Checks.due("read again", 0, () -> works.read(7, 2));
        Numbers.feedText(works, "101");
        Checks.due("read what came since", 3, () -> works.read(7, 2));
        read(SCENE, 7, BigInteger.valueOf(5)).check("read what came since", works);
    }

    /** "the digits of a in a base 2 .. 36 (0 .. 9, a .. z)": the first and the last base, and each between. */
    private static void promise17FirstAndLastBase() {
        for (int base = 2; base <= 36; base++) {
            int b = base;
            String text = "10" + DIGITS.charAt(base - 1) + "01" + DIGITS.charAt(base - 1);
            Scene scene = SCENE.with(7, new BigInteger(text, base));
            scene.takes("write in base " + base, 6, scene.withOut(text), works -> works.write(7, b));
        }
        for (int digit = 1; digit < 36; digit++) {
            Scene scene = SCENE.with(0, digit);
            scene.takes("write " + digit, 1, scene.withOut(DIGITS.substring(digit, digit + 1)),
                    works -> works.write(0, 36));
        }
    }

    /** "a base 2 .. 36": no other, and out stays then. */
    private static void promise17RefusedBases() {
        for (int base : NO_BASES) {
            SCENE.refuses("write in base " + base, ARGUMENT, works -> works.write(7, base));
            SCENE.refuses("write 0 in base " + base, ARGUMENT, works -> works.write(0, base));
        }
    }

    /** "throws IllegalArgumentException": out stays then. */
    private static void promise17RefusedRegisters() {
        for (int r : MISSING) {
            SCENE.refuses("write " + r, ARGUMENT, works -> works.write(r, 10));
            SCENE.refuses("write " + r + " in base 37", ARGUMENT, works -> works.write(r, 37));
        }
    }

    /** "the first one not 0": about each power of the base, where a digit more comes in. */
    private static void promise17TheFirstDigitIsNot0() {
        for (int base = 2; base <= 36; base++) {
            int b = base;
            for (int n : new int[] {1, 2, 5, 6, 7, 29, 30, 31, 32, 64}) {
                BigInteger power = BigInteger.valueOf(base).pow(n);
                Scene scene = SCENE.with(0, power).with(8, power.subtract(BigInteger.ONE));
                scene.takes("write " + base + "^" + n, n + 1, scene.withOut("1" + "0".repeat(n)),
                        works -> works.write(0, b));
                scene.takes("write " + base + "^" + n + " - 1", n,
                        scene.withOut(DIGITS.substring(base - 1, base).repeat(n)), works -> works.write(8, b));
            }
        }
    }

    /** "\"0\" for 0; answers how many." */
    private static void promise17OneDigitFor0() {
        for (int base = 2; base <= 36; base++) {
            int b = base;
            SCENE.takes("write 0 in base " + base, 1, SCENE.withOut("0"), works -> works.write(0, b));
        }
    }

    /** "IllegalStateException: they would be more than 20000.": up to there they are taken. */
    private static void promise17UpTo20000() {
        for (int base = 2; base <= 36; base++) {
            int b = base;
            BigInteger least = BigInteger.valueOf(base).pow(19999);
            BigInteger most = least.multiply(BigInteger.valueOf(base)).subtract(BigInteger.ONE);
            Scene scene = SCENE.with(2, least).with(3, most);
            scene.takes("write the least of 20000 digits of base " + base, 20000,
                    scene.withOut("1" + "0".repeat(19999)), works -> works.write(2, b));
            scene.takes("write the greatest of 20000 digits of base " + base, 20000,
                    scene.withOut(DIGITS.substring(base - 1, base).repeat(20000)), works -> works.write(3, b));
        }
    }

    /** "IllegalStateException: they would be more than 20000." */
    private static void promise17MoreThan20000() {
        for (int base = 2; base <= 36; base++) {
            int b = base;
            Scene scene = SCENE.with(3, BigInteger.valueOf(base).pow(20000));
            scene.refuses("write 20001 digits of base " + base, STATE, works -> works.write(3, b));
            scene.refuses("write the greatest in base " + base, STATE, works -> works.write(2, b));
        }
    }

    /** "A byte of out, from 0" */
    private static void promise18FirstAndLast() {
        SCENE.answers("octet(0)", 'f', works -> works.octet(0));
        SCENE.answers("octet(1)", 'a', works -> works.octet(1));
        SCENE.answers("octet(3)", 'e', works -> works.octet(3));
        Scene full = SCENE.withOut("a" + "0".repeat(19998) + "9");
        full.answers("octet(0) of 20000", 'a', works -> works.octet(0));
        full.answers("octet(19999) of 20000", '9', works -> works.octet(19999));
        full.refuses("octet(20000) of 20000", NONE, works -> works.octet(20000));
    }

    /** "NoSuchElementException: there is none." */
    private static void promise18ThereIsNone() {
        for (int k : new int[] {-1, 4, 5, 19999, 20000, 20001, Integer.MIN_VALUE, Integer.MAX_VALUE}) {
            SCENE.refuses("octet(" + k + ") of 4", NONE, works -> works.octet(k));
            SCENE.withOut("").refuses("octet(" + k + ") of none", NONE, works -> works.octet(k));
        }
        SCENE.withOut("").refuses("octet(0) of none", NONE, works -> works.octet(0));
    }

    /** "of a call of write that was not refused" */
    private static void promise18OfACallNotRefused() {
        LimbWorks works = SCENE.make();
        Checks.due("write", 1, () -> works.write(9, 10));
        Checks.thrown("write too many", STATE, () -> works.write(2, 36));
        Checks.thrown("write in no base", ARGUMENT, () -> works.write(3, 1));
        Checks.thrown("write of no register", ARGUMENT, () -> works.write(10, 10));
        Checks.due("octet(0) of the one not refused", '5', () -> works.octet(0));
        Checks.thrown("octet(1) of the one not refused", NONE, () -> works.octet(1));
        Checks.due("write again", 4, () -> works.write(3, 10));
        SCENE.withOut("1000").check("write again", works);
        LimbWorks none = new Scene().with(2, GREATEST).make();
        Checks.thrown("write too many at first", STATE, () -> none.write(2, 10));
        Checks.thrown("octet(0) of none", NONE, () -> none.octet(0));
    }
}
