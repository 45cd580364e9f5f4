import java.math.BigInteger;
import java.util.Arrays;
import java.util.NoSuchElementException;

/**
 * What an object holds: ten registers, the tape and out. A call is tried on an object made for it alone, and everything
 * that the object holds afterwards is looked at.
 */
final class Scene {
    interface Call {
        long on(LimbWorks works);
    }

    private static final int REGISTERS = 10;
    private static final int MOST_BASE = 36;

    private final BigInteger[] registers;
    private final String tape;
    private final String out;

    /** What a new object holds. */
    Scene() {
        this(noughts(), "", "");
    }

    private Scene(BigInteger[] registers, String tape, String out) {
        this.registers = registers;
        this.tape = tape;
        this.out = out;
    }

    private static BigInteger[] noughts() {
        BigInteger[] noughts = new BigInteger[REGISTERS];
        Arrays.fill(noughts, BigInteger.ZERO);
        return noughts;
    }

    /** A scene that is to be made has no more than 64 bits in register 9, which helps to make the others. */
    Scene with(int register, BigInteger x) {
        BigInteger[] changed = registers.clone();
        changed[register] = x;
        return new Scene(changed, tape, out);
    }

    Scene with(int register, long x) {
        return with(register, BigInteger.valueOf(x));
    }

    Scene withTape(String text) {
        return new Scene(registers, text, out);
    }

    /** The text is a number in base 36 without noughts before it. */
    Scene withOut(String text) {
        return new Scene(registers, tape, text);
    }

    BigInteger value(int register) {
        return registers[register];
    }

    /** The call is refused, and nothing has changed. */
    void refuses(String what, Class<? extends RuntimeException> want, Call call) {
        leads(what, want.getSimpleName(), this, call);
    }

    /** The call is refused, and has changed what is told. */
    void refuses(String what, Class<? extends RuntimeException> want, Scene after, Call call) {
        leads(what, want.getSimpleName(), after, call);
    }

    /** The call answers, and nothing has changed but what stands in after. */
    void takes(String what, long answer, Scene after, Call call) {
        leads(what, Long.toString(answer), after, call);
    }

    /** The call answers, and nothing has changed. */
    void answers(String what, long answer, Call call) {
        takes(what, answer, this, call);
    }

    /** The register becomes x, whose bits are answered, and nothing else has changed. */
    void becomes(String what, int register, BigInteger x, Call call) {
        takes(what, x.bitLength(), with(register, x), call);
    }

    void becomes(String what, int register, long x, Call call) {
        becomes(what, register, BigInteger.valueOf(x), call);
    }

    private void leads(String what, String outcome, Scene after, Call call) {
        LimbWorks works = make();
        Checks.same(what, outcome, Checks.outcome(() -> call.on(works)));
        after.check(what, works);
    }

    /** An object that holds all this, and that held longer numbers, a longer tape and a longer out before. */
    LimbWorks make() {
        LimbWorks works = new LimbWorks();
        fillRegisters(works);
        fillTape(works);
        if (!out.isEmpty()) {
            works.shift(9, 1, -180000);
            works.write(9, 2);
            Numbers.plant(works, 9, 8, new BigInteger(out, MOST_BASE));
            works.write(9, MOST_BASE);
        }
        for (int r = 0; r < 8; r++) {
            // A copy leaves more of the longer number that was there before than planting in its place would.
            Numbers.plant(works, 9, 8, registers[r]);
            works.copy(r, 9);
        }
        Numbers.plant(works, 8, 9, registers[8]);
        works.set(9, registers[9].longValue());
        Numbers.feedText(works, tape);
        return works;
    }

    /** Each register becomes the greatest number, and so does most of what is worked with inside. */
    private static void fillRegisters(LimbWorks works) {
        works.set(0, 1);
        works.shift(1, 0, 199999);
        works.subtract(2, 1, 0);
        works.add(1, 1, 2);
        works.power(3, 1, 1);
        works.divide(4, 5, 1, 0);
        for (int r = 0; r < REGISTERS; r++) {
            works.copy(r, 1);
        }
    }

    private static void fillTape(LimbWorks works) {
        Numbers.feedText(works, "y".repeat(4096));
        works.end(0);
    }

    /** Holds all that an object has against this scene; its tape is lost. */
    void check(String what, LimbWorks works) {
        for (int r = 0; r < REGISTERS; r++) {
            Checks.same(what + " leaves register " + r, registers[r], Numbers.value(works, r));
        }
        Checks.same(what + " leaves out", out, outOf(works));
        checkTape(what, works);
    }

    private static String outOf(LimbWorks works) {
        StringBuilder text = new StringBuilder();
        try {
            while (text.length() <= 20000) {
                text.append((char) works.octet(text.length()));
            }
        } catch (NoSuchElementException e) {
            return text.toString();
        }
        return "an out without an end";
    }

    /** Bytes that are digits of no base can't be read, so of such a tape the digits before them are looked at. */
    private void checkTape(String what, LimbWorks works) {
        int digits = 0;
        while (digits < tape.length() && isDigit(tape.charAt(digits))) {
            digits++;
        }
        int first = digits;
        BigInteger read = first == 0 ? BigInteger.ZERO : new BigInteger(tape.substring(0, first), MOST_BASE);
        Checks.thrown(what + " leaves no more on the tape", IllegalArgumentException.class,
                () -> works.end(tape.length() + 1));
        Checks.due(what + " leaves no less on the tape", 0, () -> works.end(tape.length()));
        Checks.due(what + " leaves the tape", tape.length() - first, () -> works.end(first));
        Checks.due(what + " leaves the tape", read.bitLength(), () -> works.read(0, MOST_BASE));
        Checks.same(what + " leaves the tape", read, Numbers.value(works, 0));
    }

    private static boolean isDigit(char c) {
        return c < 128 && Character.digit(c, MOST_BASE) >= 0;
    }
}
