import java.math.BigInteger;
import java.util.Locale;

/** The document's calls said again by BigInteger, to compare the program with. */
final class Mirror {
    private static final BigInteger LIMIT = BigInteger.ONE.shiftLeft(2048);

    final BigInteger[] registers = new BigInteger[10];
    final StringBuilder draft = new StringBuilder();
    String written = "";

    Mirror() {
        java.util.Arrays.fill(registers, BigInteger.ZERO);
    }

    private static void registers(int... all) {
        for (int register : all) {
            argument(register >= 0 && register <= 9);
        }
    }

    private static void argument(boolean holds) {
        if (!holds) {
            throw new IllegalArgumentException();
        }
    }

    private static void arithmetic(boolean holds) {
        if (!holds) {
            throw new ArithmeticException();
        }
    }

    private void keep(int to, BigInteger value) {
        arithmetic(value.abs().compareTo(LIMIT) < 0);
        registers[to] = value;
    }

    int write(int n, long characters) {
        argument(n >= 1 && n <= 8);
        if (draft.length() + n > 2100) {
            return -1;
        }
        for (int i = 0; i < n; i++) {
            draft.append((char) (characters >>> (8 * i) & 0xFF));
        }
        return draft.length();
    }

    int wipe() {
        int had = draft.length();
        draft.setLength(0);
        return had;
    }

    void read(int to, int base) {
        registers(to);
        argument(base >= 2 && base <= 36);
        String text = draft.toString();
        String digits = text.startsWith("-") || text.startsWith("+") ? text.substring(1) : text;
        boolean number = !digits.isEmpty();
        for (char c : digits.toCharArray()) {
            int digit = "0123456789abcdefghijklmnopqrstuvwxyz".indexOf(c >= 'A' && c <= 'Z' ? c + 32 : c);
            number = number && digit >= 0 && digit < base;
        }
        if (!number) {
            throw new IllegalStateException();
        }
        BigInteger size = new BigInteger(digits.toLowerCase(Locale.ROOT), base);
        keep(to, text.startsWith("-") ? size.negate() : size);
        draft.setLength(0);
    }

    void put(int to, long value) {
        registers(to);
        registers[to] = BigInteger.valueOf(value);
    }

    void add(int a, int b, int to, boolean less) {
        registers(a, b, to);
        keep(to, less ? registers[a].subtract(registers[b]) : registers[a].add(registers[b]));
    }

    void multiply(int a, int b, int to) {
        registers(a, b, to);
        keep(to, registers[a].multiply(registers[b]));
    }

    void divide(int a, int b, int quotient, int rest) {
        registers(a, b, quotient, rest);
        arithmetic(registers[b].signum() != 0);
        BigInteger[] both = registers[a].divideAndRemainder(registers[b]);
        registers[quotient] = both[0];
        registers[rest] = both[1];
    }

    void modulo(int a, int m, int to) {
        registers(a, m, to);
        arithmetic(registers[m].signum() > 0);
        registers[to] = registers[a].mod(registers[m]);
    }

    void power(int a, int n, int to) {
        registers(a, to);
        argument(n >= 0);
        BigInteger base = registers[a];
        if (base.abs().compareTo(BigInteger.ONE) <= 0) {
            keep(to, n == 0 || n % 2 != 0 && base.signum() < 0 ? base.pow(n == 0 ? 0 : 1) : base.abs());
            return;
        }
        arithmetic(n < 2048);
        keep(to, base.pow(n));
    }

    void root(int a, int n, int to) {
        registers(a, to);
        argument(n >= 1 && n <= 64);
        arithmetic(registers[a].signum() >= 0);
        BigInteger root = BigInteger.ZERO;
        for (int i = registers[a].bitLength() / n + 1; i >= 0; i--) {
            BigInteger more = root.setBit(i);
            if (more.pow(n).compareTo(registers[a]) <= 0) {
                root = more;
            }
        }
        registers[to] = root;
    }

    void common(int a, int b, int to) {
        registers(a, b, to);
        registers[to] = registers[a].gcd(registers[b]);
    }

    void inverse(int a, int m, int to) {
        registers(a, m, to);
        arithmetic(registers[m].signum() > 0);
        registers[to] = registers[a].modInverse(registers[m]);
    }

    void powerModulo(int a, int e, int m, int to) {
        registers(a, e, m, to);
        arithmetic(registers[m].signum() > 0);
        registers[to] = registers[a].modPow(registers[e], registers[m]);
    }

    void combine(int a, int b, int to, int how) {
        registers(a, b, to);
        argument(how >= 0 && how <= 3);
        BigInteger x = registers[a];
        BigInteger y = registers[b];
        keep(to, how == 0 ? x.and(y) : how == 1 ? x.or(y) : how == 2 ? x.xor(y) : x.andNot(y));
    }

    void shift(int a, int n, int to) {
        registers(a, to);
        BigInteger x = registers[a];
        if (n > 0) {
            arithmetic(n <= 2048 || x.signum() == 0);
            keep(to, x.signum() == 0 ? x : x.shiftLeft(n));
        } else {
            registers[to] = x.shiftRight(-Math.max(n, -5000));
        }
    }

    int bit(int a, int i) {
        registers(a);
        argument(i >= 0);
        return registers[a].testBit(i) ? 1 : 0;
    }

    int compare(int a, int b) {
        registers(a, b);
        return registers[a].compareTo(registers[b]);
    }

    long told(int a, int what) {
        registers(a);
        argument(what >= 0 && what <= 4);
        BigInteger x = registers[a];
        return switch (what) {
            case 0 -> x.longValue();
            case 1 -> x.signum();
            case 2 -> x.bitLength();
            case 3 -> x.bitCount();
            default -> x.getLowestSetBit();
        };
    }

    int written(int a, int base) {
        registers(a);
        argument(base >= 2 && base <= 36);
        written = registers[a].toString(base);
        return written.length();
    }

    long text(int i) {
        long eight = 0;
        for (int k = 0; k < 8; k++) {
            long place = (long) i + k;
            if (place >= 0 && place < written.length()) {
                eight |= (long) written.charAt((int) place) << (8 * k);
            }
        }
        return eight;
    }
}
