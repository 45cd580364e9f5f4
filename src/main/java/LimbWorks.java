import java.util.Arrays;
import java.util.NoSuchElementException;

/** Natural numbers of up to 200000 bits in ten registers, a tape to read them from and an out to write them to. */
public final class LimbWorks {
    private static final int REGISTERS = 10;
    private static final int MOST_BITS = 200000;
    private static final int MOST_WORDS = 6250;
    private static final int MOST_POWER = 100;
    private static final int MOST_ROOT = 40;
    private static final int LEAST_BASE = 2;
    private static final int MOST_BASE = 36;
    private static final int TAPE_BYTES = 4096;
    private static final int FED_BYTES = 20;
    private static final int OUT_BYTES = 20000;

    /** Roots are tried out by powers of up to 200040 bits, and sums and products have a word to spare. */
    private static final int ROW_WORDS = 6272;
    private static final long LOW = 0xFFFFFFFFL;

    private final Natural[] registers = new Natural[REGISTERS];
    private final Natural spare = new Natural();
    private final Natural pieces = new Natural();
    private final Bench bench = new Bench();
    private final Roots roots = new Roots();
    private final byte[] tape = new byte[TAPE_BYTES];
    private final byte[] out = new byte[OUT_BYTES];
    private int tapeLength = 0;
    private int outLength = 0;

    public LimbWorks() {
        for (int i = 0; i < REGISTERS; i++) {
            registers[i] = new Natural();
        }
    }

    public int set(int register, long value) throws IllegalArgumentException {
        Natural target = registerAt(register);
        target.putLong(value);
        return target.countBits();
    }

    public int copy(int register, int a) throws IllegalArgumentException {
        Natural target = registerAt(register);
        return keep(target, registerAt(a));
    }

    public int shift(int register, int a, int n) throws IllegalArgumentException, IllegalStateException {
        Natural target = registerAt(register);
        Natural source = registerAt(a);
        requireRange(n, -MOST_BITS, MOST_BITS);
        int bits = source.countBits();
        refuseBeyond(bits == 0 ? 0 : bits + n, MOST_BITS);
        target.putMoved(source, n);
        return target.countBits();
    }

    public int add(int register, int a, int b) throws IllegalArgumentException, IllegalStateException {
        Natural target = registerAt(register);
        spare.putSum(registerAt(a), registerAt(b));
        refuseBeyond(spare.countBits(), MOST_BITS);
        return keep(target, spare);
    }

    public int subtract(int register, int a, int b) throws IllegalArgumentException, ArithmeticException {
        Natural target = registerAt(register);
        Natural from = registerAt(a);
        Natural less = registerAt(b);
        if (from.order(less) < 0) {
            throw new ArithmeticException();
        }
        target.putDifference(from, less);
        return target.countBits();
    }

    public int times(int register, int a, int b) throws IllegalArgumentException, IllegalStateException {
        Natural target = registerAt(register);
        Natural left = registerAt(a);
        Natural right = registerAt(b);
        refuseBeyond(left.countBits() + right.countBits(), MOST_BITS);
        bench.putProduct(target, left, right);
        return target.countBits();
    }

    public int divide(int quotient, int rest, int a, int b) throws IllegalArgumentException, ArithmeticException {
        Natural quotientTarget = registerAt(quotient);
        Natural restTarget = registerAt(rest);
        Natural dividend = registerAt(a);
        Natural divisor = registerAt(b);
        if (divisor.length == 0) {
            throw new ArithmeticException();
        }
        return bench.putQuotient(quotientTarget, restTarget, dividend, divisor);
    }

    public int power(int register, int a, int n) throws IllegalArgumentException, IllegalStateException {
        Natural target = registerAt(register);
        Natural base = registerAt(a);
        requireRange(n, 0, MOST_POWER);
        refuseBeyond(n * base.countBits(), MOST_BITS);
        bench.putPower(spare, base, n);
        return keep(target, spare);
    }

    public int root(int register, int a, int n) throws IllegalArgumentException {
        Natural target = registerAt(register);
        Natural whole = registerAt(a);
        requireRange(n, 1, MOST_ROOT);
        roots.putRoot(spare, whole, n, bench);
        return keep(target, spare);
    }

    public int compare(int a, int b) throws IllegalArgumentException {
        return registerAt(a).order(registerAt(b));
    }

    public int bits(int register) throws IllegalArgumentException {
        return registerAt(register).countBits();
    }

    public long word(int register, int k) throws IllegalArgumentException {
        Natural source = registerAt(register);
        requireRange(k, 0, MOST_WORDS - 1);
        return k < source.length ? source.words[k] & LOW : 0;
    }

    public void feed(int a, int b, int c, int d, int e) throws IllegalStateException {
        refuseBeyond(tapeLength + FED_BYTES, TAPE_BYTES);
        feedWord(a);
        feedWord(b);
        feedWord(c);
        feedWord(d);
        feedWord(e);
    }

    public int end(int n) throws IllegalArgumentException {
        requireRange(n, 0, tapeLength);
        int gone = tapeLength - n;
        tapeLength = n;
        return gone;
    }

    public int read(int register, int base) throws IllegalArgumentException, UnsupportedOperationException {
        Natural target = registerAt(register);
        requireRange(base, LEAST_BASE, MOST_BASE);
        int count = tapeLength;
        tapeLength = 0;
        if (!hasDigitsAlone(count, base)) {
            throw new UnsupportedOperationException();
        }
        readDigits(count, base);
        return keep(target, spare);
    }

    public int write(int a, int base) throws IllegalArgumentException, IllegalStateException {
        Natural source = registerAt(a);
        requireRange(base, LEAST_BASE, MOST_BASE);
        // More bits than these are surely too many digits, and fewer fit the row of pieces.
        refuseBeyond(source.countBits(), OUT_BYTES * bitsOf(base - 1));
        int digits = digitsOfPiece(base);
        cutIntoPieces(source, powerOf(base, digits));
        int count = countDigits(base, digits);
        refuseBeyond(count, OUT_BYTES);
        writeDigits(count, base, digits);
        outLength = count;
        return count;
    }

    public int octet(int k) throws NoSuchElementException {
        if (k < 0 || k >= outLength) {
            throw new NoSuchElementException();
        }
        return out[k];
    }

    private Natural registerAt(int register) {
        requireRange(register, 0, REGISTERS - 1);
        return registers[register];
    }

    private static void requireRange(int value, int least, int most) {
        if (value < least || value > most) {
            throw new IllegalArgumentException();
        }
    }

    private static void refuseBeyond(int amount, int most) {
        if (amount > most) {
            throw new IllegalStateException();
        }
    }

    private static int keep(Natural target, Natural value) {
        target.putSame(value);
        return target.countBits();
    }

    private static int bitsOf(int value) {
        return 32 - Integer.numberOfLeadingZeros(value);
    }

    private void feedWord(int bytes) {
        for (int down = 24; down >= 0; down -= 8) {
            tape[tapeLength] = (byte) (bytes >> down);
            tapeLength++;
        }
    }

    private boolean hasDigitsAlone(int count, int base) {
        for (int i = 0; i < count; i++) {
            if (digitOf(tape[i]) >= base) {
                return false;
            }
        }
        return true;
    }

    /** What a byte counts as a digit; a byte that is none counts as too much for every base. */
    private static int digitOf(int octet) {
        if (octet >= '0' && octet <= '9') {
            return octet - '0';
        }
        if (octet >= 'a' && octet <= 'z') {
            return octet - 'a' + 10;
        }
        if (octet >= 'A' && octet <= 'Z') {
            return octet - 'A' + 10;
        }
        return MOST_BASE;
    }

    /** The digits are taken a piece at a time, so that the long number is gone through less often. */
    private void readDigits(int count, int base) {
        int most = digitsOfPiece(base);
        spare.putLong(0);
        for (int from = 0; from < count; from += most) {
            int digits = Math.min(most, count - from);
            int piece = 0;
            for (int i = 0; i < digits; i++) {
                piece = piece * base + digitOf(tape[from + i]);
            }
            spare.scale(powerOf(base, digits), piece);
        }
    }

    /** How many digits of a base are sure to fit 31 bits. */
    private static int digitsOfPiece(int base) {
        int digits = 1;
        int power = base;
        for (int i = 1; i < 31 && power <= Integer.MAX_VALUE / base; i++) {
            power *= base;
            digits++;
        }
        return digits;
    }

    private static int powerOf(int base, int n) {
        int power = 1;
        for (int i = 0; i < n; i++) {
            power *= base;
        }
        return power;
    }

    /** The pieces become the digits of a number in a base of up to 31 bits, the lowest first. */
    private void cutIntoPieces(Natural a, int base) {
        spare.putSame(a);
        int count = 0;
        while (spare.length > 0 && count < ROW_WORDS) {
            pieces.words[count] = spare.reduce(base);
            count++;
        }
        pieces.trim(count);
    }

    private int countDigits(int base, int digits) {
        if (pieces.length == 0) {
            return 1;
        }
        int count = (pieces.length - 1) * digits;
        for (int top = pieces.words[pieces.length - 1]; top > 0; top /= base) {
            count++;
        }
        return count;
    }

    private void writeDigits(int count, int base, int digits) {
        int piece = 0;
        for (int i = 0; i < count; i++) {
            if (i % digits == 0) {
                int k = i / digits;
                piece = k < pieces.length ? pieces.words[k] : 0;
            }
            int digit = piece % base;
            piece /= base;
            out[count - 1 - i] = (byte) (digit < 10 ? '0' + digit : 'a' + digit - 10);
        }
    }

    /** A natural number of length words of 32 bits, the lowest first, the last one not 0. */
    private static final class Natural {
        final int[] words = new int[ROW_WORDS];
        int length = 0;

        int countBits() {
            return length == 0 ? 0 : 32 * length - Integer.numberOfLeadingZeros(words[length - 1]);
        }

        void trim(int most) {
            length = most;
            while (length > 0 && words[length - 1] == 0) {
                length--;
            }
        }

        void putLong(long value) {
            words[0] = (int) value;
            words[1] = (int) (value >>> 32);
            trim(2);
        }

        void putSame(Natural a) {
            System.arraycopy(a.words, 0, words, 0, a.length);
            length = a.length;
        }

        /** -1, 0 or 1: this is less than b, the same, or greater. */
        int order(Natural b) {
            if (length != b.length) {
                return length < b.length ? -1 : 1;
            }
            for (int i = length - 1; i >= 0; i--) {
                if (words[i] != b.words[i]) {
                    return Integer.compareUnsigned(words[i], b.words[i]) < 0 ? -1 : 1;
                }
            }
            return 0;
        }

        void putSum(Natural a, Natural b) {
            Natural longer = a.length >= b.length ? a : b;
            Natural shorter = a.length >= b.length ? b : a;
            int most = longer.length;
            int both = shorter.length;
            long carry = 0;
            for (int i = 0; i < most; i++) {
                carry += (longer.words[i] & LOW) + (i < both ? shorter.words[i] & LOW : 0);
                words[i] = (int) carry;
                carry >>>= 32;
            }
            words[most] = (int) carry;
            trim(most + 1);
        }

        /** b is not greater than a. */
        void putDifference(Natural a, Natural b) {
            int most = a.length;
            int both = b.length;
            long carry = 0;
            for (int i = 0; i < most; i++) {
                carry += (a.words[i] & LOW) - (i < both ? b.words[i] & LOW : 0);
                words[i] = (int) carry;
                carry >>= 32;
            }
            trim(most);
        }

        /** This becomes a times 2^n, rounded down. */
        void putMoved(Natural a, int n) {
            if (n >= 0) {
                moveUp(a, n / 32, n % 32);
            } else {
                moveDown(a, -n / 32, -n % 32);
            }
        }

        /** Goes from the highest word down, for a may be this very number. */
        private void moveUp(Natural a, int whole, int part) {
            int count = a.length;
            if (count == 0) {
                length = 0;
                return;
            }
            int above = 0;
            for (int i = count - 1; i >= 0; i--) {
                int here = a.words[i];
                words[i + whole + 1] = part == 0 ? above : above << part | here >>> 32 - part;
                above = here;
            }
            words[whole] = above << part;
            Arrays.fill(words, 0, whole, 0);
            trim(count + whole + 1);
        }

        private void moveDown(Natural a, int whole, int part) {
            int count = Math.max(0, a.length - whole);
            for (int i = 0; i < count; i++) {
                int here = a.words[i + whole];
                int above = i + 1 < count ? a.words[i + whole + 1] : 0;
                words[i] = part == 0 ? here : here >>> part | above << 32 - part;
            }
            trim(count);
        }

        /** This becomes this times factor plus more; neither is below 0. */
        void scale(int factor, int more) {
            long carry = more;
            for (int i = 0; i < length; i++) {
                carry += (words[i] & LOW) * factor;
                words[i] = (int) carry;
                carry >>>= 32;
            }
            words[length] = (int) carry;
            trim(length + 1);
        }

        /** This becomes this over divisor, which is above 0, rounded down; answers what is left. */
        int reduce(int divisor) {
            long rest = 0;
            for (int i = length - 1; i >= 0; i--) {
                long part = rest << 32 | words[i] & LOW;
                long share = part / divisor;
                words[i] = (int) share;
                rest = part - share * divisor;
            }
            trim(length);
            return (int) rest;
        }
    }

    /**
     * The one long row in which products and quotients are worked out. A number in it is told by the place where it
     * begins and by how many words it has, the lowest first.
     */
    private static final class Bench {
        private static final int BENCH_WORDS = 32768;

        private final int[] row = new int[BENCH_WORDS];

        void putProduct(Natural target, Natural a, Natural b) {
            int an = a.length;
            int bn = b.length;
            int product = an + bn;
            System.arraycopy(a.words, 0, row, 0, an);
            System.arraycopy(b.words, 0, row, an, bn);
            multiplyPlain(product, 0, an, an, bn);
            System.arraycopy(row, product, target.words, 0, an + bn);
            target.trim(an + bn);
        }

        void putPower(Natural target, Natural base, int n) {
            if (n == 0) {
                target.putLong(1);
                return;
            }
            target.putSame(base);
            for (int bit = bitsOf(n) - 2; bit >= 0; bit--) {
                putProduct(target, target, target);
                if ((n >> bit & 1) == 1) {
                    putProduct(target, target, base);
                }
            }
        }

        /** quotient, then rest become a over b and what is left; b is not 0. Answers the bits of the quotient. */
        int putQuotient(Natural quotient, Natural rest, Natural a, Natural b) {
            int dn = b.length;
            int up = Integer.numberOfLeadingZeros(b.words[dn - 1]);
            if (a.length < dn) {
                rest.putSame(a);
                if (quotient != rest) {
                    quotient.length = 0;
                }
                return 0;
            }
            int qn = a.length + 1 - dn;
            int d = a.length + 1;
            int q = d + dn + 1;
            layMoved(0, a, up);
            layMoved(d, b, up);
            dividePlain(q, 0, d, dn, qn);
            System.arraycopy(row, q, quotient.words, 0, qn);
            quotient.trim(qn);
            int bits = quotient.countBits();
            System.arraycopy(row, 0, rest.words, 0, dn);
            rest.trim(dn);
            rest.putMoved(rest, -up);
            return bits;
        }

        /** Lays a times 2^up, up below 32, into the row, with one word more than a has. */
        private void layMoved(int at, Natural a, int up) {
            int below = 0;
            for (int i = 0; i < a.length; i++) {
                int here = a.words[i];
                row[at + i] = up == 0 ? here : here << up | below >>> 32 - up;
                below = here;
            }
            row[at + a.length] = up == 0 ? 0 : below >>> 32 - up;
        }

        private void multiplyPlain(int r, int a, int an, int b, int bn) {
            Arrays.fill(row, r, r + an, 0);
            for (int i = 0; i < bn; i++) {
                row[r + an + i] = addProduct(r + i, a, an, row[b + i] & LOW);
            }
        }

        private int addProduct(int at, int from, int count, long factor) {
            long carry = 0;
            int to = at;
            for (int i = from; i < from + count; i++) {
                carry += (row[i] & LOW) * factor + (row[to] & LOW);
                row[to] = (int) carry;
                carry >>>= 32;
                to++;
            }
            return (int) carry;
        }

        /**
         * Divides the dn + k words at n by the dn words at d, whose highest bit is 1 and which are more than the
         * highest dn words at n: k words of quotient come to q, what is left stays in the dn words at n.
         */
        private void dividePlain(int q, int n, int d, int dn, int k) {
            for (int i = k - 1; i >= 0; i--) {
                long guess = guessWord(n + i, d, dn);
                long borrow = takeProduct(n + i, d, dn, guess);
                long top = (row[n + i + dn] & LOW) - borrow;
                if (top < 0) {
                    guess--;
                    top += addInto(n + i, dn, d, dn);
                }
                row[n + i + dn] = (int) top;
                row[q + i] = (int) guess;
            }
        }

        /** The next word of a quotient, at times one too much: the highest words alone are looked at. */
        private long guessWord(int n, int d, int dn) {
            long high = row[n + dn] & LOW;
            long next = row[n + dn - 1] & LOW;
            long first = row[d + dn - 1] & LOW;
            long both = high << 32 | next;
            long guess = high >= first ? LOW : Long.divideUnsigned(both, first);
            long left = both - guess * first;
            if (dn == 1) {
                return guess;
            }
            long second = row[d + dn - 2] & LOW;
            long third = row[n + dn - 2] & LOW;
            for (int i = 0; i < 2 && left <= LOW; i++) {
                if (Long.compareUnsigned(guess * second, left << 32 | third) <= 0) {
                    return guess;
                }
                guess--;
                left += first;
            }
            return guess;
        }

        private long takeProduct(int at, int from, int count, long factor) {
            long borrow = 0;
            int to = at;
            for (int i = from; i < from + count; i++) {
                long product = (row[i] & LOW) * factor + borrow;
                long left = (row[to] & LOW) - (product & LOW);
                row[to] = (int) left;
                borrow = (product >>> 32) + (left >>> 63);
                to++;
            }
            return borrow;
        }

        private int addInto(int at, int atCount, int from, int count) {
            long carry = 0;
            for (int i = 0; i < count; i++) {
                carry += (row[at + i] & LOW) + (row[from + i] & LOW);
                row[at + i] = (int) carry;
                carry >>>= 32;
            }
            for (int i = count; i < atCount && carry != 0; i++) {
                carry += row[at + i] & LOW;
                row[at + i] = (int) carry;
                carry >>>= 32;
            }
            return (int) carry;
        }
    }

    /**
     * Finds the n-th root of a number from its highest bits down: the root of a's highest bits is the highest bits of
     * a's root, and Newton's step from there finds about as many bits more.
     */
    private static final class Roots {
        private final Natural below = new Natural();
        private final Natural whole = new Natural();
        private final Natural part = new Natural();

        void putRoot(Natural root, Natural a, int n, Bench bench) {
            int bits = a.countBits();
            if (n == 1 || bits == 0) {
                root.putSame(a);
                return;
            }
            int all = (bits + n - 1) / n;
            // With so many bits more than half of those wanted, a step is never more than one too far.
            int guard = bitsOf(n) + 1;
            root.putLong(1);
            int known = 1;
            below.putLong(1);
            whole.putLong(1);
            while (known < all) {
                int next = Math.min(all, Math.max(known + 1, 2 * known - guard));
                extend(root, a, n, bench, next - known, (all - next) * n);
                known = next;
            }
        }

        private void extend(Natural root, Natural a, int n, Bench bench, int more, int hidden) {
            part.putMoved(a, -hidden - more * (n - 1));
            whole.putMoved(whole, more);
            part.putDifference(part, whole);
            below.scale(n, 0);
            bench.putQuotient(part, whole, part, below);
            if (part.countBits() > more) {
                part.putLong(1);
                part.putMoved(part, more);
                below.putLong(1);
                part.putDifference(part, below);
            }
            root.putMoved(root, more);
            root.putSum(root, part);
            raise(root, n, bench);
            part.putMoved(a, -hidden);
            if (whole.order(part) > 0) {
                below.putLong(1);
                root.putDifference(root, below);
                raise(root, n, bench);
            }
        }

        private void raise(Natural root, int n, Bench bench) {
            bench.putPower(below, root, n - 1);
            bench.putProduct(whole, below, root);
        }
    }
}
