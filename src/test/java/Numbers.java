import java.math.BigInteger;

/** Names that the tests share, for numbers and for what calls throw. */
class Numbers {
    static final Class<IllegalArgumentException> ARGUMENT = IllegalArgumentException.class;
    static final Class<IllegalStateException> STATE = IllegalStateException.class;
    static final Class<ArithmeticException> ARITHMETIC = ArithmeticException.class;
    /** The last wrong one on each side comes first, then those farthest away. */
    static final int[] NO_REGISTERS = {-1, 10, Integer.MIN_VALUE, Integer.MAX_VALUE};
    static final int[] NO_BASES = {1, 37, 0, -2, Integer.MIN_VALUE, Integer.MAX_VALUE};
    /** The greatest and the least number of a register. */
    static final BigInteger GREATEST = two(2048).subtract(BigInteger.ONE);
    static final BigInteger LEAST = GREATEST.negate();
    static final String DIGITS = "0123456789abcdefghijklmnopqrstuvwxyz";

    Numbers() {
    }

    static BigInteger two(int exponent) {
        return BigInteger.ONE.shiftLeft(exponent);
    }

    static BigInteger big(long value) {
        return BigInteger.valueOf(value);
    }

    /** The number that differs from another one by so much. */
    static BigInteger near(BigInteger value, long by) {
        return value.add(big(by));
    }
}
