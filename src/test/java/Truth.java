import java.math.BigInteger;

/** The TRUE numbers of section 1 of the document, told anew: as whole numbers times 2^-PLACES. */
final class Truth {
    static final int PLACES = 500;
    private static final BigInteger ONE = BigInteger.ONE.shiftLeft(PLACES);
    /** Far more than all the roundings below add up to, far less than what any answer goes by. */
    static final BigInteger DOUBT = BigInteger.ONE.shiftLeft(PLACES - 300);

    private static final BigInteger[] POWERS = powers();
    private static final BigInteger[] LOGS = logs();

    private Truth() {
    }

    static BigInteger quarter(int q) {
        return BigInteger.valueOf(q).shiftLeft(PLACES - 2);
    }

    static BigInteger power(int q) {
        return POWERS[q + 160];
    }

    static BigInteger lessened(int q) {
        return POWERS[q + 160].subtract(ONE);
    }

    /** The logarithm of 1 + q/4 is that of q + 4 less that of 4. */
    static BigInteger logged(int q) {
        return LOGS[q + 4].subtract(LOGS[4]);
    }

    /** The TRUE number of a NUMBER of the KINDS 0 and 2 to 6. */
    static BigInteger of(int kind, int q) {
        switch (kind) {
            case 2:
                return power(q);
            case 3:
                return lessened(q);
            case 4:
                return logged(q);
            default:
                return quarter(q);
        }
    }

    /** The TRUE number times 2^k, rounded down. */
    static BigInteger whole(int kind, int q, int k) {
        BigInteger number = of(kind, q);
        BigInteger told = number.shiftRight(PLACES - k);
        if (kind >= 2 && kind <= 4) {
            boolean isSure = number.subtract(DOUBT).shiftRight(PLACES - k).equals(told)
                    && number.add(DOUBT).shiftRight(PLACES - k).equals(told);
            if (!isSure) {
                throw new IllegalStateException("the TRUE number is not known well enough");
            }
        }
        return told;
    }

    private static BigInteger[] powers() {
        BigInteger step = ONE;
        BigInteger term = ONE;
        for (int n = 1; n < 200; n++) {
            term = term.divide(BigInteger.valueOf(4L * n));
            step = step.add(term);
        }
        BigInteger[] told = new BigInteger[321];
        told[160] = ONE;
        for (int q = 1; q <= 160; q++) {
            told[160 + q] = told[159 + q].multiply(step).shiftRight(PLACES);
            told[160 - q] = ONE.shiftLeft(PLACES).divide(told[160 + q]);
        }
        return told;
    }

    /** ln n = ln (n - 1) + 2 (x + x^3/3 + x^5/5 + ..) with x = 1/(2n - 1). */
    private static BigInteger[] logs() {
        BigInteger[] told = new BigInteger[165];
        told[1] = BigInteger.ZERO;
        for (int n = 2; n <= 164; n++) {
            BigInteger odd = BigInteger.valueOf(2L * n - 1);
            BigInteger power = ONE.divide(odd);
            BigInteger sum = BigInteger.ZERO;
            for (int i = 1; power.signum() > 0; i += 2) {
                sum = sum.add(power.divide(BigInteger.valueOf(i)));
                power = power.divide(odd.multiply(odd));
            }
            told[n] = told[n - 1].add(sum.shiftLeft(1));
        }
        return told;
    }

    /** The 64 digits, without the sign, of the NUMBER nearest to the TRUE one (no tie is met). */
    static long nearest(int kind, int q) {
        BigInteger size = of(kind, q).abs();
        int bits = size.bitLength();
        int cut = bits - 53;
        BigInteger mantissa = size.shiftRight(cut);
        if (size.testBit(cut - 1)) {
            mantissa = mantissa.add(BigInteger.ONE);
        }
        long exponent = bits - 1 - PLACES + 1023;
        return (exponent << 52) + mantissa.longValueExact() - (1L << 52);
    }
}
