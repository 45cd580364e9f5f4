import java.math.BigInteger;
import java.util.Random;

/** Big numbers into and out of registers, and numbers that are hard on carries and corrections. */
final class Numbers {
    static final int MOST_BITS = 200000;

    /** As many digits of base 16 as a full tape takes in whole feeds. */
    private static final int TAPE_DIGITS = 4080;

    private Numbers() {
    }

    /** The register becomes x; the helper is another register that is lost, and so is what the tape had. */
    static void plant(LimbWorks works, int register, int helper, BigInteger x) {
        works.end(0);
        String digits = x.toString(16);
        works.set(register, 0);
        for (int from = 0; from < digits.length(); from += TAPE_DIGITS) {
            String part = digits.substring(from, Math.min(digits.length(), from + TAPE_DIGITS));
            feedText(works, part);
            works.read(helper, 16);
            works.shift(register, register, 4 * part.length() - spareBits(from, part));
            works.add(register, register, helper);
        }
    }

    /** The first part has no digits before it to make room for. */
    private static int spareBits(int from, String part) {
        return from == 0 ? 4 * part.length() : 0;
    }

    /** Feeds a text to an empty tape. Twenty bytes come at a time, so the last twenty are fed over some before them. */
    static void feedText(LimbWorks works, String text) {
        int whole = text.length() / 20 * 20;
        for (int from = 0; from < whole; from += 20) {
            feedTwenty(works, text, from);
        }
        if (whole < text.length()) {
            int from = Math.max(0, text.length() - 20);
            works.end(from);
            feedTwenty(works, text, from);
            works.end(text.length());
        }
    }

    private static void feedTwenty(LimbWorks works, String text, int from) {
        int[] five = new int[5];
        for (int i = 0; i < 20; i++) {
            int octet = from + i < text.length() ? text.charAt(from + i) & 0xFF : 0;
            five[i / 4] = five[i / 4] << 8 | octet;
        }
        works.feed(five[0], five[1], five[2], five[3], five[4]);
    }

    static BigInteger value(LimbWorks works, int register) {
        int words = (works.bits(register) + 31) / 32;
        byte[] bytes = new byte[4 * words + 1];
        for (int k = 0; k < words; k++) {
            long word = works.word(register, k);
            for (int i = 0; i < 4; i++) {
                bytes[bytes.length - 1 - 4 * k - i] = (byte) (word >> 8 * i);
            }
        }
        return new BigInteger(bytes);
    }

    static String outText(LimbWorks works, int count) {
        StringBuilder text = new StringBuilder();
        for (int k = 0; k < count; k++) {
            text.append((char) works.octet(k));
        }
        return text.toString();
    }

    static BigInteger power(int base, int n) {
        return BigInteger.valueOf(base).pow(n);
    }

    /** The n-th root rounded down, bit by bit from Newton's steps downwards. */
    static BigInteger root(BigInteger a, int n) {
        if (a.signum() == 0 || n == 1) {
            return a;
        }
        if (n == 2) {
            return a.sqrt();
        }
        BigInteger many = BigInteger.valueOf(n);
        BigInteger fewer = BigInteger.valueOf(n - 1);
        int bits = (a.bitLength() + n - 1) / n;
        BigInteger x = BigInteger.ONE.shiftLeft(bits);
        if (bits > 64) {
            int cut = bits / 2 - 10;
            x = root(a.shiftRight(cut * n), n).add(BigInteger.ONE).shiftLeft(cut);
        }
        while (true) {
            BigInteger next = fewer.multiply(x).add(a.divide(x.pow(n - 1))).divide(many);
            if (next.compareTo(x) >= 0) {
                return x;
            }
            x = next;
        }
    }

    static BigInteger draw(Random random, int mostBits) {
        int bits = random.nextInt(mostBits + 1);
        BigInteger power = BigInteger.ONE.shiftLeft(bits);
        switch (random.nextInt(6)) {
            case 0:
                return power.subtract(BigInteger.ONE);
            case 1:
                return power.subtract(BigInteger.ONE.shiftLeft(bits / 2));
            case 2:
                BigInteger few = new BigInteger(Math.min(20, bits / 2), random);
                return BigInteger.ONE.shiftLeft(Math.max(0, bits - 1)).add(few);
            case 3:
                return runs(random, bits);
            default:
                return new BigInteger(bits, random);
        }
    }

    /** Long runs of ones and noughts lead to the rare corrections of a quotient's guessed words. */
    static BigInteger runs(Random random, int bits) {
        BigInteger x = BigInteger.ZERO;
        int longest = 1 + random.nextInt(Math.max(1, bits / 2));
        int left = bits;
        while (left > 0) {
            int run = Math.min(left, 1 + random.nextInt(longest));
            x = x.shiftLeft(run);
            if (random.nextBoolean()) {
                x = x.add(BigInteger.ONE.shiftLeft(run).subtract(BigInteger.ONE));
            }
            left -= run;
        }
        return x;
    }
}
