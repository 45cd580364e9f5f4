import java.util.Arrays;
import java.util.NoSuchElementException;

/** Natural numbers of up to 200000 bits in ten registers, a tape to read them from and an out to write them to. */
public final class LimbWorks {
    private static final int REGISTERS = 10;
    private static final int MOST_BITS = 200000;
    private static final int MOST_WORDS = 6250;
    private static final int MOST_POWER = 100;
    private static final int MOST_ROOT = 40;
    private static final int LEAST_BASE = 2;
    private static final int MOST_BASE = 36;
    private static final int TAPE_BYTES = 4096;
    private static final int FED_BYTES = 20;
    private static final int OUT_BYTES = 20000;

    /** The digits of a piece, as many as make no more than this, are read and written at once. */
    private static final int MOST_PIECE = 0x7FFFFFFF;

    /** A piece has 25 bits at least, and more than 6 bits for each byte of out are refused before they are cut. */
    private static final int MOST_PIECES = 4800;

    /** Roots are tried out by powers of up to 200040 bits, and sums and products have a word to spare. */
    private static final int ROW_WORDS = 6272;
    private static final long LOW = 0xFFFFFFFFL;

    private final Natural[] registers = new Natural[REGISTERS];
    private final Natural spare = new Natural();
    private final Bench bench = new Bench();
    private final Roots roots = new Roots();
    private final int[] pieces = new int[MOST_PIECES];
    private final byte[] tape = new byte[TAPE_BYTES];
    private final byte[] out = new byte[OUT_BYTES];
    private int tapeLength = 0;
    private int outLength = 0;

    public LimbWorks() {
        for (int i = 0; i < REGISTERS; i++) {
            registers[i] = new Natural();
        }
    }

    public int set(int register, long value) throws IllegalArgumentException {
        Natural target = registerAt(register);
        target.putLong(value);
        return target.countBits();
    }

    public int copy(int register, int a) throws IllegalArgumentException {
        Natural target = registerAt(register);
        return keep(target, registerAt(a));
    }

    public int shift(int register, int a, int n) throws IllegalArgumentException, IllegalStateException {
        Natural target = registerAt(register);
        Natural source = registerAt(a);
        requireRange(n, -MOST_BITS, MOST_BITS);
        refuseBeyond(source.countBits() + n, MOST_BITS);
        target.putMoved(source, n);
        return target.countBits();
    }

    public int add(int register, int a, int b) throws IllegalArgumentException, IllegalStateException {
        Natural target = registerAt(register);
        spare.putSum(registerAt(a), registerAt(b));
        refuseBeyond(spare.countBits(), MOST_BITS);
        return keep(target, spare);
    }

    public int subtract(int register, int a, int b) throws IllegalArgumentException, ArithmeticException {
        Natural target = registerAt(register);
        Natural from = registerAt(a);
        Natural less = registerAt(b);
        if (from.order(less) < 0) {
            throw new ArithmeticException();
        }
        target.putDifference(from, less);
        return target.countBits();
    }

    public int times(int register, int a, int b) throws IllegalArgumentException, IllegalStateException {
        Natural target = registerAt(register);
        Natural left = registerAt(a);
        Natural right = registerAt(b);
        refuseBeyond(left.countBits() + right.countBits(), MOST_BITS);
        bench.putProduct(target, left, right);
        return target.countBits();
    }

    public int divide(int quotient, int rest, int a, int b) throws IllegalArgumentException, ArithmeticException {
        Natural quotientTarget = registerAt(quotient);
        Natural restTarget = registerAt(rest);
        Natural dividend = registerAt(a);
        Natural divisor = registerAt(b);
        if (divisor.length == 0) {
            throw new ArithmeticException();
        }
        return bench.putQuotient(quotientTarget, restTarget, dividend, divisor);
    }

    public int power(int register, int a, int n) throws IllegalArgumentException, IllegalStateException {
        Natural target = registerAt(register);
        Natural base = registerAt(a);
        requireRange(n, 0, MOST_POWER);
        refuseBeyond(n * base.countBits(), MOST_BITS);
        bench.putPower(spare, base, n);
        return keep(target, spare);
    }

    public int root(int register, int a, int n) throws IllegalArgumentException {
        Natural target = registerAt(register);
        Natural whole = registerAt(a);
        requireRange(n, 1, MOST_ROOT);
        roots.putRoot(spare, whole, n, bench);
        return keep(target, spare);
    }

    public int compare(int a, int b) throws IllegalArgumentException {
        return registerAt(a).order(registerAt(b));
    }

    public int bits(int register) throws IllegalArgumentException {
        return registerAt(register).countBits();
    }

    public long word(int register, int k) throws IllegalArgumentException {
        Natural source = registerAt(register);
        requireRange(k, 0, MOST_WORDS - 1);
        return k < source.length ? source.words[k] & LOW : 0;
    }

    public void feed(int a, int b, int c, int d, int e) throws IllegalStateException {
        refuseBeyond(tapeLength + FED_BYTES, TAPE_BYTES);
        feedWord(a);
        feedWord(b);
        feedWord(c);
        feedWord(d);
        feedWord(e);
    }

    public int end(int n) throws IllegalArgumentException {
        requireRange(n, 0, tapeLength);
        int gone = tapeLength - n;
        tapeLength = n;
        return gone;
    }

    public int read(int register, int base) throws IllegalArgumentException, UnsupportedOperationException {
        Natural target = registerAt(register);
        requireRange(base, LEAST_BASE, MOST_BASE);
        int count = tapeLength;
        tapeLength = 0;
        if (!hasDigitsAlone(count, base)) {
            throw new UnsupportedOperationException();
        }
        readDigits(count, base);
        return keep(target, spare);
    }

    public int write(int a, int base) throws IllegalArgumentException, IllegalStateException {
        Natural source = registerAt(a);
        requireRange(base, LEAST_BASE, MOST_BASE);
        // No digit has more bits than base - 1, so what has more than this has surely too many digits.
        refuseBeyond(source.countBits(), OUT_BYTES * bitsOf(base - 1));
        int digits = digitsOfPiece(base);
        int pieceCount = cutIntoPieces(source, powerOf(base, digits));
        int count = countDigits(pieceCount, base, digits);
        refuseBeyond(count, OUT_BYTES);
        writeDigits(count, base, digits);
        outLength = count;
        return count;
    }

    public int octet(int k) throws NoSuchElementException {
        if (k < 0 || k >= outLength) {
            throw new NoSuchElementException();
        }
        return out[k];
    }

    private Natural registerAt(int register) {
        requireRange(register, 0, REGISTERS - 1);
        return registers[register];
    }

    private static void requireRange(int value, int least, int most) {
        if (value < least || value > most) {
            throw new IllegalArgumentException();
        }
    }

    private static void refuseBeyond(int amount, int most) {
        if (amount > most) {
            throw new IllegalStateException();
        }
    }

    private static int keep(Natural target, Natural value) {
        target.putSame(value);
        return target.countBits();
    }

    /** How many bits a word has, taken without a sign. */
    private static int bitsOf(int word) {
        int filled = word | word >>> 1;
        filled |= filled >>> 2;
        filled |= filled >>> 4;
        filled |= filled >>> 8;
        filled |= filled >>> 16;
        return Integer.bitCount(filled);
    }

    private void feedWord(int bytes) {
        for (int down = 24; down >= 0; down -= 8) {
            tape[tapeLength] = (byte) (bytes >> down);
            tapeLength++;
        }
    }

    private boolean hasDigitsAlone(int count, int base) {
        for (int i = 0; i < count; i++) {
            if (digitOf(tape[i]) >= base) {
                return false;
            }
        }
        return true;
    }

    /** What a byte counts as a digit; a byte that is none counts as too much for every base. */
    private static int digitOf(int octet) {
        if (octet >= '0' && octet <= '9') {
            return octet - '0';
        }
        if (octet >= 'a' && octet <= 'z') {
            return octet - 'a' + 10;
        }
        if (octet >= 'A' && octet <= 'Z') {
            return octet - 'A' + 10;
        }
        return MOST_BASE;
    }

    /** The digits are taken a piece at a time, so that the long number is gone through less often. */
    private void readDigits(int count, int base) {
        int most = digitsOfPiece(base);
        spare.putLong(0);
        for (int from = 0; from < count; from += most) {
            int digits = Math.min(most, count - from);
            int piece = 0;
            for (int i = 0; i < digits; i++) {
                piece = piece * base + digitOf(tape[from + i]);
            }
            spare.scale(powerOf(base, digits), piece);
        }
    }

    /** How many digits of a base make a piece. */
    private static int digitsOfPiece(int base) {
        int digits = 1;
        int power = base;
        for (int i = 1; i < 31 && power <= MOST_PIECE / base; i++) {
            power *= base;
            digits++;
        }
        return digits;
    }

    private static int powerOf(int base, int n) {
        int power = 1;
        for (int i = 0; i < n; i++) {
            power *= base;
        }
        return power;
    }

    /** The pieces become the digits of a in a base of up to 31 bits, the lowest first, one at least; how many? */
    private int cutIntoPieces(Natural a, int base) {
        spare.putSame(a);
        pieces[0] = spare.reduce(base);
        int count = 1;
        while (spare.length > 0 && count < MOST_PIECES) {
            pieces[count] = spare.reduce(base);
            count++;
        }
        return count;
    }

    private int countDigits(int pieceCount, int base, int digits) {
        int count = (pieceCount - 1) * digits + 1;
        int top = pieces[pieceCount - 1] / base;
        for (int i = 1; i < digits && top > 0; i++) {
            top /= base;
            count++;
        }
        return count;
    }

    private void writeDigits(int count, int base, int digits) {
        int piece = 0;
        for (int i = 0; i < count; i++) {
            if (i % digits == 0) {
                piece = pieces[i / digits];
            }
            int digit = piece % base;
            piece /= base;
            out[count - 1 - i] = (byte) (digit < 10 ? '0' + digit : 'a' + digit - 10);
        }
    }

    /** A natural number of length words of 32 bits, the lowest first, the last one not 0. */
    private static final class Natural {
        final int[] words = new int[ROW_WORDS];
        int length = 0;

        int countBits() {
            return length == 0 ? 0 : 32 * (length - 1) + bitsOf(words[length - 1]);
        }

        void trim(int most) {
            length = most;
            while (length > 0 && words[length - 1] == 0) {
                length--;
            }
        }

        void putLong(long value) {
            words[0] = (int) value;
            words[1] = (int) (value >>> 32);
            trim(2);
        }

        void putSame(Natural a) {
            System.arraycopy(a.words, 0, words, 0, a.length);
            length = a.length;
        }

        /** -1, 0 or 1: this is less than b, the same, or greater. */
        int order(Natural b) {
            if (length != b.length) {
                return length < b.length ? -1 : 1;
            }
            for (int i = length - 1; i >= 0; i--) {
                if (words[i] != b.words[i]) {
                    return (words[i] & LOW) < (b.words[i] & LOW) ? -1 : 1;
                }
            }
            return 0;
        }

        void putSum(Natural a, Natural b) {
            Natural longer = a.length >= b.length ? a : b;
            Natural shorter = a.length >= b.length ? b : a;
            int most = longer.length;
            int both = shorter.length;
            long carry = 0;
            for (int i = 0; i < most; i++) {
                carry += (longer.words[i] & LOW) + (i < both ? shorter.words[i] & LOW : 0);
                words[i] = (int) carry;
                carry >>>= 32;
            }
            words[most] = (int) carry;
            trim(most + 1);
        }

        /** b is not greater than a. */
        void putDifference(Natural a, Natural b) {
            int most = a.length;
            int both = b.length;
            long carry = 0;
            for (int i = 0; i < most; i++) {
                carry += (a.words[i] & LOW) - (i < both ? b.words[i] & LOW : 0);
                words[i] = (int) carry;
                carry >>= 32;
            }
            trim(most);
        }

        /** This becomes a times 2^n, rounded down. */
        void putMoved(Natural a, int n) {
            if (n >= 0) {
                moveUp(a, n / 32, n % 32);
            } else {
                moveDown(a, -n / 32, -n % 32);
            }
        }

        /** Goes from the highest word down, for a may be this very number. */
        private void moveUp(Natural a, int whole, int part) {
            int count = a.length;
            if (count == 0) {
                length = 0;
                return;
            }
            int above = 0;
            for (int i = count - 1; i >= 0; i--) {
                int here = a.words[i];
                words[i + whole + 1] = part == 0 ? above : above << part | here >>> 32 - part;
                above = here;
            }
            words[whole] = above << part;
            Arrays.fill(words, 0, whole, 0);
            trim(count + whole + 1);
        }

        private void moveDown(Natural a, int whole, int part) {
            int count = Math.max(0, a.length - whole);
            for (int i = 0; i < count; i++) {
                int here = a.words[i + whole];
                int above = i + 1 < count ? a.words[i + whole + 1] : 0;
                words[i] = part == 0 ? here : here >>> part | above << 32 - part;
            }
            trim(count);
        }

        void putOnes(int bits) {
            int full = bits / 32;
            Arrays.fill(words, 0, full, -1);
            words[full] = (1 << bits % 32) - 1;
            trim(full + 1);
        }

        /** This is not 0. */
        void takeOne() {
            boolean owed = true;
            for (int i = 0; i < length && owed; i++) {
                owed = words[i] == 0;
                words[i]--;
            }
            trim(length);
        }

        /** This becomes this times factor plus more; neither is below 0. */
        void scale(int factor, int more) {
            long carry = more;
            for (int i = 0; i < length; i++) {
                carry += (words[i] & LOW) * factor;
                words[i] = (int) carry;
                carry >>>= 32;
            }
            words[length] = (int) carry;
            trim(length + 1);
        }

        /** This becomes this over divisor, which is above 0, rounded down; answers what is left. */
        int reduce(int divisor) {
            int[] w = words;
            long rest = 0;
            for (int i = length - 1; i >= 0; i--) {
                long part = rest << 32 | w[i] & LOW;
                long share = part / divisor;
                w[i] = (int) share;
                rest = part - share * divisor;
            }
            trim(length);
            return (int) rest;
        }
    }

    /**
     * The one long row in which products and quotients are worked out. A number in it is told by the place where it
     * begins and by how many words it has, the lowest first; free tells from where on nothing is needed any more.
     */
    private static final class Bench {
        /** The dearest quotient takes less than 25800 with all its scratch, the dearest product less. */
        private static final int BENCH_WORDS = 28672;
        private static final int HALVED_PRODUCT = 40;
        private static final int HALVED_QUOTIENT = 80;
        private static final int MOST_HALVINGS = 20;

        private final int[] row = new int[BENCH_WORDS];

        void putProduct(Natural target, Natural a, Natural b) {
            int an = a.length;
            int bn = b.length;
            if (an == 0 || bn == 0) {
                target.length = 0;
                return;
            }
            // A square is known further down by its factors' common place.
            int right = a == b ? 0 : an;
            int product = an + bn;
            System.arraycopy(a.words, 0, row, 0, an);
            System.arraycopy(b.words, 0, row, right, bn);
            multiply(product, 0, an, right, bn, product + an + bn, MOST_HALVINGS);
            System.arraycopy(row, product, target.words, 0, an + bn);
            target.trim(an + bn);
        }

        /** The target is another number than the base. */
        void putPower(Natural target, Natural base, int n) {
            if (n == 0) {
                target.putLong(1);
                return;
            }
            target.putSame(base);
            for (int bit = bitsOf(n) - 2; bit >= 0; bit--) {
                putProduct(target, target, target);
                if ((n >> bit & 1) == 1) {
                    putProduct(target, target, base);
                }
            }
        }

        /** quotient, and then rest, become a over b and what is left; b is not 0. Answers the quotient's bits. */
        int putQuotient(Natural quotient, Natural rest, Natural a, Natural b) {
            int dn = b.length;
            int qn = Math.max(0, a.length + 1 - dn);
            int d = a.length + 1;
            int q = d + dn + 1;
            // The guesses of a quotient's words are good only if the divisor's highest bit is 1.
            int up = 32 * dn - b.countBits();
            layMoved(0, a, up);
            layMoved(d, b, up);
            int left = qn;
            while (left > 0) {
                int k = dn < HALVED_QUOTIENT ? left : (left - 1) % dn + 1;
                left -= k;
                divideRun(q + left, left, d, dn, k, q + qn, MOST_HALVINGS);
            }
            System.arraycopy(row, q, quotient.words, 0, qn);
            quotient.trim(qn);
            int bits = quotient.countBits();
            int restLength = Math.min(dn, d);
            System.arraycopy(row, 0, rest.words, 0, restLength);
            rest.trim(restLength);
            rest.putMoved(rest, -up);
            return bits;
        }

        /** Lays a times 2^up, up below 32, into the row, with one word more than a has. */
        private void layMoved(int at, Natural a, int up) {
            int below = 0;
            for (int i = 0; i < a.length; i++) {
                int here = a.words[i];
                row[at + i] = up == 0 ? here : here << up | below >>> 32 - up;
                below = here;
            }
            row[at + a.length] = up == 0 ? 0 : below >>> 32 - up;
        }

        /** The an + bn words at r become the an words at a times the bn words at b; each has one at least. */
        private void multiply(int r, int a, int an, int b, int bn, int free, int halvings) {
            int half = (Math.max(an, bn) + 1) / 2;
            boolean isShort = Math.min(an, bn) < HALVED_PRODUCT || halvings == 0;
            if (isShort && a == b) {
                squarePlain(r, a, an);
            } else if (isShort) {
                multiplyPlain(r, a, an, b, bn);
            } else if (an <= half) {
                multiplyTwice(r, b, bn, a, an, free, halvings - 1);
            } else if (bn <= half) {
                multiplyTwice(r, a, an, b, bn, free, halvings - 1);
            } else {
                multiplyThrice(r, a, an, b, bn, free, halvings - 1);
            }
        }

        private void multiplyPlain(int r, int a, int an, int b, int bn) {
            Arrays.fill(row, r, r + an, 0);
            for (int i = 0; i < bn; i++) {
                row[r + an + i] = addProduct(r + i, a, an, row[b + i] & LOW);
            }
        }

        /** Each product of two different words is needed twice, so it is made once and doubled. */
        private void squarePlain(int r, int a, int an) {
            int[] w = row;
            Arrays.fill(w, r, r + 2 * an, 0);
            for (int i = 0; i < an; i++) {
                w[r + an + i] = addProduct(r + 2 * i + 1, a + i + 1, an - 1 - i, w[a + i] & LOW);
            }
            long carry = 0;
            for (int i = 0; i < an; i++) {
                long word = w[a + i] & LOW;
                long square = word * word;
                carry += ((w[r + 2 * i] & LOW) << 1) + (square & LOW);
                w[r + 2 * i] = (int) carry;
                carry = (carry >>> 32) + ((w[r + 2 * i + 1] & LOW) << 1) + (square >>> 32);
                w[r + 2 * i + 1] = (int) carry;
                carry >>>= 32;
            }
        }

        /** The longer factor a is cut in two, as b is not longer than its half. */
        private void multiplyTwice(int r, int a, int an, int b, int bn, int free, int halvings) {
            int half = (an + 1) / 2;
            int upper = an - half + bn;
            multiply(r, a, half, b, bn, free, halvings);
            multiply(free, a + half, an - half, b, bn, free + upper, halvings);
            Arrays.fill(row, r + half + bn, r + an + bn, 0);
            addInto(r + half, upper, free, upper);
        }

        /**
         * Both factors are cut at the same place, and three products do instead of four (Karatsuba): the mixed ones
         * are the sum of the lower and the upper one less the product of the halves' differences.
         */
        private void multiplyThrice(int r, int a, int an, int b, int bn, int free, int halvings) {
            int half = (Math.max(an, bn) + 1) / 2;
            int upper = an + bn - 2 * half;
            int right = a == b ? r : r + half;
            boolean leftBelow = layDifference(r, a, half, an - half);
            boolean rightBelow = layDifference(right, b, half, bn - half);
            int mixed = free + 2 * half;
            multiply(free, r, half, right, half, mixed, halvings);
            multiply(r, a, half, b, half, mixed, halvings);
            multiply(r + 2 * half, a + half, an - half, b + half, bn - half, mixed, halvings);
            int mixedLength = 2 * half + 1;
            System.arraycopy(row, r, row, mixed, 2 * half);
            row[mixed + 2 * half] = 0;
            addInto(mixed, mixedLength, r + 2 * half, upper);
            if (leftBelow == rightBelow) {
                takeFrom(mixed, mixedLength, free, 2 * half);
            } else {
                addInto(mixed, mixedLength, free, 2 * half);
            }
            addInto(r + half, half + upper, mixed, Math.min(mixedLength, half + upper));
        }

        /**
         * The half words at r become how far the half words at a and the other, not more, words behind them are
         * apart; answers whether the first are less.
         */
        private boolean layDifference(int r, int a, int half, int other) {
            int[] w = row;
            long owed = 0;
            for (int i = 0; i < half; i++) {
                owed += (w[a + i] & LOW) - (i < other ? w[a + half + i] & LOW : 0);
                w[r + i] = (int) owed;
                owed >>= 32;
            }
            if (owed == 0) {
                return false;
            }
            long carry = 1;
            for (int i = r; i < r + half; i++) {
                carry += ~w[i] & LOW;
                w[i] = (int) carry;
                carry >>>= 32;
            }
            return true;
        }

        /**
         * Divides the dn + k words at n by the dn words at d, whose highest bit is 1; k is not more than dn if that is
         * long. k words of the quotient come to q, and what is left stays in the dn words at n. Answers the
         * quotient's next word, 0 or 1.
         */
        private int divideRun(int q, int n, int d, int dn, int k, int free, int halvings) {
            if (k < HALVED_QUOTIENT || dn < HALVED_QUOTIENT || halvings == 0) {
                return dividePlain(q, n, d, dn, k);
            }
            if (k < dn) {
                return divideByHead(q, n, d, dn, k, free, halvings - 1);
            }
            int low = k / 2;
            int next = divideByHead(q + low, n + low, d, dn, k - low, free, halvings - 1);
            divideByHead(q, n, d, dn, low, free, halvings - 1);
            return next;
        }

        /**
         * As divideRun, with k less than dn: the divisor's k highest words give a quotient that is at most a little
         * too much, and the product with its other words is taken away afterwards.
         */
        private int divideByHead(int q, int n, int d, int dn, int k, int free, int halvings) {
            int tail = dn - k;
            int next = divideRun(q, n + tail, d + tail, k, k, free, halvings);
            multiply(free, q, k, d, tail, free + dn, MOST_HALVINGS);
            int owed = takeFrom(n, dn, free, dn);
            if (next != 0) {
                owed += takeFrom(n + k, tail, d, tail);
            }
            for (int i = 0; i < 4 && owed > 0; i++) {
                next -= takeOne(q, k);
                owed -= addInto(n, dn, d, dn);
            }
            return next;
        }

        private int dividePlain(int q, int n, int d, int dn, int k) {
            int next = 0;
            if (isNotLess(n + k, d, dn)) {
                takeFrom(n + k, dn, d, dn);
                next = 1;
            }
            for (int i = k - 1; i >= 0; i--) {
                long guess = guessWord(n + i, d, dn);
                long top = (row[n + i + dn] & LOW) - takeProduct(n + i, d, dn, guess);
                if (top < 0) {
                    guess--;
                    top += addInto(n + i, dn, d, dn);
                }
                row[n + i + dn] = (int) top;
                row[q + i] = (int) guess;
            }
            return next;
        }

        /** The next word of a quotient, at times one too much: the divisor's two highest words alone are looked at. */
        private long guessWord(int n, int d, int dn) {
            long high = row[n + dn] & LOW;
            long both = high << 32 | row[n + dn - 1] & LOW;
            long first = row[d + dn - 1] & LOW;
            long guess = high < first ? shareOf(both, first) : LOW;
            if (dn == 1) {
                return guess;
            }
            // From the first word alone it may be two too much, but then the second takes far more than what is left.
            long left = both - guess * first;
            long taken = guess * (row[d + dn - 2] & LOW);
            return taken >>> 32 > left ? guess - 1 : guess;
        }

        /** What both, taken as 64 bits without a sign, has of first, a word above 0, rounded down. */
        private static long shareOf(long both, long first) {
            // Java's division takes the highest bit for a sign, so half of both is shared out, and then the rest.
            long share = (both >>> 1) / first << 1;
            return both - share * first < first ? share : share + 1;
        }

        private boolean isNotLess(int a, int b, int count) {
            for (int i = count - 1; i >= 0; i--) {
                if (row[a + i] != row[b + i]) {
                    return (row[a + i] & LOW) > (row[b + i] & LOW);
                }
            }
            return true;
        }

        /** Adds the count words at from, times factor, to those at at; answers the word that is carried on. */
        private int addProduct(int at, int from, int count, long factor) {
            int[] w = row;
            int end = from + count;
            int to = at;
            long carry = 0;
            for (int i = from; i < end; i++) {
                carry += (w[i] & LOW) * factor + (w[to] & LOW);
                w[to] = (int) carry;
                carry >>>= 32;
                to++;
            }
            return (int) carry;
        }

        /** Takes the count words at from, times factor, from those at at; answers the word that is owed. */
        private long takeProduct(int at, int from, int count, long factor) {
            int[] w = row;
            int end = from + count;
            int to = at;
            long owed = 0;
            for (int i = from; i < end; i++) {
                owed += (w[i] & LOW) * factor;
                long left = (w[to] & LOW) - (owed & LOW);
                w[to] = (int) left;
                owed = (owed >>> 32) + (left >>> 63);
                to++;
            }
            return owed;
        }

        /** Adds the count words at from to the atCount, not fewer, at at; answers what is carried on. */
        private int addInto(int at, int atCount, int from, int count) {
            int[] w = row;
            int shift = from - at;
            int end = at + count;
            long carry = 0;
            for (int i = at; i < end; i++) {
                carry += (w[i] & LOW) + (w[i + shift] & LOW);
                w[i] = (int) carry;
                carry >>>= 32;
            }
            for (int i = end; i < at + atCount && carry != 0; i++) {
                carry += w[i] & LOW;
                w[i] = (int) carry;
                carry >>>= 32;
            }
            return (int) carry;
        }

        /** Takes the count words at from from the atCount, not fewer, at at; answers what is owed: 0 or 1. */
        private int takeFrom(int at, int atCount, int from, int count) {
            int[] w = row;
            int shift = from - at;
            int end = at + count;
            long owed = 0;
            for (int i = at; i < end; i++) {
                owed += (w[i] & LOW) - (w[i + shift] & LOW);
                w[i] = (int) owed;
                owed >>= 32;
            }
            for (int i = end; i < at + atCount && owed != 0; i++) {
                owed += w[i] & LOW;
                w[i] = (int) owed;
                owed >>= 32;
            }
            return (int) -owed;
        }

        private int takeOne(int at, int count) {
            for (int i = at; i < at + count; i++) {
                row[i]--;
                if (row[i] != -1) {
                    return 0;
                }
            }
            return 1;
        }
    }

    /**
     * Finds roots from their highest bits down: the root of a number's highest bits is its root's highest bits, and
     * one step of Newton's from there gives about as many bits more.
     */
    private static final class Roots {
        /** The part of the root that is known to the powers of n - 1 and of n. */
        private final Natural lesser = new Natural();
        private final Natural whole = new Natural();
        private final Natural part = new Natural();

        /** The root is another number than a. */
        void putRoot(Natural root, Natural a, int n, Bench bench) {
            int bits = a.countBits();
            if (n == 1 || bits == 0) {
                root.putSame(a);
                return;
            }
            int all = (bits + n - 1) / n;
            int known = 1;
            root.putLong(1);
            lesser.putLong(1);
            whole.putLong(1);
            while (known < all) {
                int more = Math.max(1, nextLength(known, all, n) - known);
                known += more;
                int hidden = (all - known) * n;
                layStep(a, n, more, hidden);
                bench.putQuotient(part, whole, part, lesser);
                lengthen(root, more);
                part.putMoved(a, -hidden);
                lowerToFit(root, n, bench);
            }
        }

        /**
         * How many bits of the root the next step finds. A step from known bits to not more than reach is never more
         * than one too far. The lengths are halved backwards from all, for a step costs by its length, and so the
         * one before the last is no longer than it must be.
         */
        private static int nextLength(int known, int all, int n) {
            int guard = bitsOf(n) + 1;
            int reach = 2 * known - guard;
            int next = all;
            for (int i = 0; i < 20 && next > reach; i++) {
                next = (next + guard + 1) / 2;
            }
            return Math.min(next, reach);
        }

        /** Newton's step is what part becomes over what lesser becomes; hidden are the bits of a not looked at yet. */
        private void layStep(Natural a, int n, int more, int hidden) {
            part.putMoved(a, -hidden - more * (n - 1));
            whole.putMoved(whole, more);
            part.putDifference(part, whole);
            lesser.scale(n, 0);
        }

        /** The root gets the bits in part behind its own, all ones if part has too many. */
        private void lengthen(Natural root, int more) {
            if (part.countBits() > more) {
                part.putOnes(more);
            }
            root.putMoved(root, more);
            root.putSum(root, part);
        }

        /** Lowers the root until its power is not more than part; a step never goes more than one too far. */
        private void lowerToFit(Natural root, int n, Bench bench) {
            boolean fits = false;
            for (int i = 0; i < 4 && !fits; i++) {
                bench.putPower(lesser, root, n - 1);
                // With n 2 lesser equals the root, but only one number given twice is known to be a square.
                bench.putProduct(whole, n == 2 ? root : lesser, root);
                fits = whole.order(part) <= 0;
                if (!fits) {
                    root.takeOne();
                }
            }
        }
    }
}
