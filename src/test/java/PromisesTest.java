import java.math.BigInteger;

/** For each promise of the document: ordinary inputs, the edges that it names, and wrong inputs. */
public final class PromisesTest extends Numbers {
    private PromisesTest() {
    }

    public static void main(String[] arguments) {
        newObject();
        write();
        wipe();
        read();
        readTooLarge();
        put();
        add();
        multiply();
        divide();
        modulo();
        power();
        root();
        common();
        inverse();
        powerModulo();
        combine();
        shift();
        bit();
        compare();
        told();
        written();
        text();
        registersFirst();
        throwingChangesNothing();
        Check.end("PromisesTest");
    }

    /** A desk with these numbers in its registers 0, 1, 2 .. and 77 in register 9. */
    private static Desk with(BigInteger... values) {
        Desk desk = new Desk();
        for (int i = 0; i < values.length; i++) {
            desk.set(i, values[i]);
        }
        desk.set(9, 77);
        return desk;
    }

    private static Desk with(long... values) {
        BigInteger[] all = new BigInteger[values.length];
        for (int i = 0; i < values.length; i++) {
            all[i] = big(values[i]);
        }
        return with(all);
    }

    private static void holds(String what, Desk desk, int register, BigInteger due) {
        Check.same(what, desk.get(register), due);
    }

    private static void holds(String what, Desk desk, int register, long due) {
        holds(what, desk, register, big(due));
    }

    /** The call throws, and register 9, which it would have changed, has 77 still. */
    private static void refuses(Class<? extends RuntimeException> due, String what, Desk desk, Check.Call call) {
        Check.throwing(due, what, call);
        holds(what + " changed register 9", desk, 9, 77);
    }

    private static void newObject() {
        Desk desk = new Desk();
        for (int i = 0; i < 10; i++) {
            Check.same("new register " + i, desk.text(i, 10), "0");
            Check.answers("new sign " + i, desk.desk.told(i, 1), 0);
        }
        Check.answers("new draft", desk.desk.wipe(), 0);
        WholeDesk untouched = new WholeDesk();
        Check.answers("new text", untouched.text(0), 0);
        Check.answers("new text before", untouched.text(-4), 0);
        WholeDesk other = new WholeDesk();
        other.put(3, 5);
        Check.answers("another object's register", untouched.told(3, 0), 0);
        Check.answers("NONE", WholeDesk.NONE, -1);
    }

    private static void write() {
        Desk desk = new Desk();
        Check.answers("write 2", desk.desk.write(2, 0x7777_3231L), 2);
        Check.answers("write 1", desk.desk.write(1, 0x33L), 3);
        desk.desk.read(0, 10);
        holds("lowest bytes first, no more than n", desk, 0, 123);
        for (int n : new int[] {0, 9, -1, Integer.MIN_VALUE, Integer.MAX_VALUE}) {
            Check.throwing(ARGUMENT, "write n " + n, () -> desk.desk.write(n, 0x31));
        }
        Check.answers("refused writes add none", desk.desk.wipe(), 0);
        Check.answers("zero bytes count", desk.desk.write(8, 0), 8);
        for (int i = 2; i <= 262; i++) {
            Check.answers("write " + i, desk.desk.write(8, 0x3030303030303030L), 8 * i);
        }
        Check.answers("2096 and 5", desk.desk.write(5, 0), WholeDesk.NONE);
        Check.answers("2096 and 4", desk.desk.write(4, -1L), 2100);
        Check.answers("2100 and 1", desk.desk.write(1, 0), WholeDesk.NONE);
        Check.throwing(ARGUMENT, "a wrong n in a full draft", () -> desk.desk.write(9, 0));
        Check.answers("full", desk.desk.wipe(), 2100);
    }

    private static void wipe() {
        Desk desk = new Desk();
        desk.draft("12345678-");
        Check.answers("wipe", desk.desk.wipe(), 9);
        Check.answers("wipe again", desk.desk.wipe(), 0);
        desk.draft("42");
        desk.desk.read(0, 10);
        holds("nothing is left of what was wiped", desk, 0, 42);
        Check.answers("wipe after read", desk.desk.wipe(), 0);
    }

    private static void reads(String text, int base, BigInteger due) {
        Desk desk = with(new long[0]);
        desk.draft(text);
        desk.desk.read(9, base);
        holds("read " + text + " to " + base, desk, 9, due);
        Check.answers("draft after read " + text, desk.desk.wipe(), 0);
    }

    private static void readsNot(String text, int base) {
        Desk desk = with(new long[0]);
        desk.draft(text);
        refuses(STATE, "read " + text + " to " + base, desk, () -> desk.desk.read(9, base));
        Check.answers("draft left of " + text, desk.desk.wipe(), text.length());
    }

    private static void read() {
        reads("0", 10, big(0));
        reads("-0", 10, big(0));
        reads("+0", 2, big(0));
        reads("-000", 36, big(0));
        reads("007", 8, big(7));
        reads("-1", 2, big(-1));
        reads("+zZ", 36, big(35 * 36 + 35));
        reads("-fF", 16, big(-255));
        reads("9223372036854775808", 10, two(63));
        for (int base = 2; base <= 36; base++) {
            String all = DIGITS.substring(0, base);
            for (int length = 1; length < 60; length += 7) {
                String some = (all + all + all + all).substring(1, Math.min(1 + length, 4 * base));
                reads(some, base, new BigInteger(some, base));
                reads("-" + some.toUpperCase(), base, new BigInteger(some, base).negate());
            }
            reads("0".repeat(99) + GREATEST.toString(base).substring(0, 380), base,
                    new BigInteger(GREATEST.toString(base).substring(0, 380), base));
            readsNot("1" + (base < 36 ? DIGITS.charAt(base) : '{'), base);
            readsNot("1" + (base < 36 ? DIGITS.toUpperCase().charAt(base) : '['), base);
        }
        for (String text : new String[] {"", "-", "+", "--1", "+-1", "1-", "1+", " 1", "1 ", "1.0", "1_0", "0x1",
            "1/", "1:", "1@", "1`", "\u0000", "1\u0000", "\u00b9", "1\u00ff", "\u00b1" + "1", "\u0080"}) {
            readsNot(text, 10);
            readsNot(text + "{", 36);
        }
        for (int base : NO_BASES) {
            Desk desk = with(new long[0]);
            desk.draft("1");
            refuses(ARGUMENT, "read to base " + base, desk, () -> desk.desk.read(9, base));
            Check.answers("draft left, base " + base, desk.desk.wipe(), 1);
        }
        Desk empty = new Desk();
        Check.throwing(ARGUMENT, "a wrong base comes before a wrong draft", () -> empty.desk.read(0, 37));
        Check.throwing(ARGUMENT, "a wrong register comes before a wrong draft", () -> empty.desk.read(10, 10));
    }

    private static void readTooLarge() {
        for (int base : new int[] {2, 3, 10, 16, 35, 36}) {
            Desk desk = with(new long[0]);
            desk.draft("-" + GREATEST.toString(base));
            desk.desk.read(8, base);
            Check.same("greatest to " + base, desk.desk.told(8, 2), 2048L);
            Check.answers("its ones", desk.desk.told(8, 3) , 2047);
            Desk over = with(new long[0]);
            String text = two(2048).toString(base);
            over.draft(text);
            refuses(ARITHMETIC, "2 to the 2048 to " + base, over, () -> over.desk.read(9, base));
            Check.answers("draft left", over.desk.wipe(), text.length());
        }
        Desk desk = with(new long[0]);
        desk.draft("z".repeat(2100));
        refuses(ARITHMETIC, "2100 letters", desk, () -> desk.desk.read(9, 36));
        Check.throwing(STATE, "no number comes before too large", () -> desk.desk.read(9, 35));
        Desk last = with(new long[0]);
        last.draft("z".repeat(2099) + "-");
        refuses(STATE, "2099 letters and a sign", last, () -> last.desk.read(9, 36));
        Desk zeros = with(new long[0]);
        zeros.draft("-" + "0".repeat(2098) + "1");
        zeros.desk.read(8, 2);
        holds("leading zeros", zeros, 8, -1);
    }

    private static void put() {
        for (long value : new long[] {0, 1, -1, 268435455, 268435456, -268435456, 1L << 56, Long.MAX_VALUE, Long.MIN_VALUE}) {
            Desk desk = new Desk();
            desk.desk.put(4, GREATEST.longValue());
            desk.desk.put(4, value);
            Check.same("put " + value, desk.text(4, 10), Long.toString(value));
        }
    }

    private static void sum(BigInteger a, BigInteger b) {
        Desk desk = with(a, b);
        desk.desk.add(0, 1, 2, false);
        desk.desk.add(0, 1, 3, true);
        holds(a + " and " + b, desk, 2, a.add(b));
        holds(a + " less " + b, desk, 3, a.subtract(b));
    }

    private static void add() {
        for (long a = -3; a <= 3; a++) {
            for (long b = -3; b <= 3; b++) {
                sum(big(a), big(b));
            }
        }
        sum(two(28).subtract(big(1)), big(1));
        sum(two(2047).subtract(big(1)), big(-1));
        sum(two(1000), two(1000).negate());
        sum(two(500), two(1000));
        Desk desk = with(GREATEST, big(1), GREATEST.negate());
        refuses(ARITHMETIC, "greatest and 1", desk, () -> desk.desk.add(0, 1, 9, false));
        refuses(ARITHMETIC, "least less 1", desk, () -> desk.desk.add(2, 1, 9, true));
        refuses(ARITHMETIC, "greatest twice", desk, () -> desk.desk.add(0, 0, 9, false));
        desk.desk.add(0, 1, 0, true);
        desk.desk.add(0, 1, 0, false);
        holds("down and up again, in one register", desk, 0, GREATEST);
        desk.desk.add(0, 0, 0, true);
        holds("less itself, in one register", desk, 0, 0);
    }

    private static void multiply() {
        for (long a = -3; a <= 3; a++) {
            for (long b = -3; b <= 3; b++) {
                Desk desk = with(a, b);
                desk.desk.multiply(0, 1, 2);
                holds(a + " times " + b, desk, 2, a * b);
            }
        }
        Desk desk = with(two(1024).subtract(big(1)), two(1024).add(big(1)).negate(), two(1024), two(1023), GREATEST);
        desk.desk.multiply(0, 1, 5);
        holds("just within", desk, 5, GREATEST.negate());
        desk.desk.multiply(2, 3, 6);
        holds("2 to the 2047", desk, 6, two(2047));
        refuses(ARITHMETIC, "2 to the 2048", desk, () -> desk.desk.multiply(2, 2, 9));
        refuses(ARITHMETIC, "-(2 to the 2048) and less", desk, () -> desk.desk.multiply(1, 2, 9));
        refuses(ARITHMETIC, "greatest squared", desk, () -> desk.desk.multiply(4, 4, 9));
        desk.desk.multiply(0, 0, 0);
        holds("squared in its own register", desk, 0, two(1024).subtract(big(1)).pow(2));
    }

    private static void parts(BigInteger a, BigInteger b) {
        Desk desk = with(a, b);
        desk.desk.divide(0, 1, 2, 3);
        holds(a + " by " + b, desk, 2, a.divide(b));
        holds("rest of " + a + " by " + b, desk, 3, a.remainder(b));
        desk.desk.divide(0, 1, 4, 4);
        holds("both into one register", desk, 4, a.remainder(b));
        desk.desk.divide(0, 1, 1, 0);
        holds("quotient into b", desk, 1, a.divide(b));
        holds("rest into a", desk, 0, a.remainder(b));
    }

    private static void divide() {
        for (long a = -7; a <= 7; a++) {
            for (long b = -3; b <= 3; b++) {
                if (b != 0) {
                    parts(big(a), big(b));
                }
            }
        }
        parts(GREATEST, big(-1));
        parts(GREATEST.negate(), GREATEST);
        parts(GREATEST, GREATEST.subtract(big(1)));
        parts(big(5), GREATEST);
        parts(two(2047), two(28).subtract(big(1)));
        parts(two(2047).add(two(1000)).subtract(big(1)), two(1024).subtract(big(1)).negate());
        Desk desk = with(7, 0);
        desk.set(8, 66);
        refuses(ARITHMETIC, "7 by 0", desk, () -> desk.desk.divide(0, 1, 8, 9));
        refuses(ARITHMETIC, "0 by 0", desk, () -> desk.desk.divide(1, 1, 8, 9));
        holds("quotient of nothing", desk, 8, 66);
    }

    private static void modulo() {
        for (long a = -7; a <= 7; a++) {
            for (long m = 1; m <= 4; m++) {
                Desk desk = with(a, m);
                desk.desk.modulo(0, 1, 2);
                holds(a + " modulo " + m, desk, 2, Math.floorMod(a, m));
            }
        }
        Desk desk = with(big(-1), GREATEST, big(0), big(-5), GREATEST.negate(), two(64));
        desk.desk.modulo(0, 1, 6);
        holds("-1 modulo the greatest", desk, 6, GREATEST.subtract(big(1)));
        desk.desk.modulo(4, 1, 6);
        holds("a multiple below 0", desk, 6, 0);
        desk.desk.modulo(4, 5, 5);
        holds("into m", desk, 5, 1);
        refuses(ARITHMETIC, "modulo 0", desk, () -> desk.desk.modulo(1, 2, 9));
        refuses(ARITHMETIC, "modulo -5", desk, () -> desk.desk.modulo(1, 3, 9));
    }

    private static void power() {
        for (long a = -4; a <= 4; a++) {
            for (int n = 0; n < 40; n++) {
                Desk desk = with(a);
                desk.desk.power(0, n, 0);
                holds(a + " to the " + n, desk, 0, big(a).pow(n));
            }
        }
        Desk desk = with(0, 1, -1, 2, -2, 3);
        int most = Integer.MAX_VALUE;
        int[][] easy = {{0, most, 0}, {1, most, 1}, {2, most, -1}, {2, most - 1, 1}, {0, 0, 1}, {2, 0, 1}};
        for (int[] row : easy) {
            desk.desk.power(row[0], row[1], 8);
            holds("register " + row[0] + " to the " + row[1], desk, 8, row[2]);
        }
        desk.desk.power(4, 2047, 8);
        holds("-2 to the 2047", desk, 8, two(2047).negate());
        desk.desk.power(5, 1292, 8);
        holds("3 to the 1292", desk, 8, big(3).pow(1292));
        for (int n : new int[] {2048, 2049, 65536, most - 1, most}) {
            refuses(ARITHMETIC, "2 to the " + n, desk, () -> desk.desk.power(3, n, 9));
            refuses(ARITHMETIC, "-2 to the " + n, desk, () -> desk.desk.power(4, n, 9));
        }
        refuses(ARITHMETIC, "3 to the 1293", desk, () -> desk.desk.power(5, 1293, 9));
        refuses(ARITHMETIC, "3 to the 2047", desk, () -> desk.desk.power(5, 2047, 9));
        for (int n : new int[] {-1, Integer.MIN_VALUE}) {
            refuses(ARGUMENT, "1 to the " + n, desk, () -> desk.desk.power(1, n, 9));
        }
        Desk large = with(GREATEST, two(1024), two(1024).subtract(big(1)));
        large.desk.power(0, 0, 3);
        holds("greatest to the 0", large, 3, 1);
        large.desk.power(0, 1, 3);
        holds("greatest to the 1", large, 3, GREATEST);
        large.desk.power(2, 2, 3);
        holds("2 to the 1024, less 1, squared", large, 3, two(1024).subtract(big(1)).pow(2));
        refuses(ARITHMETIC, "2 to the 1024 squared", large, () -> large.desk.power(1, 2, 9));
        refuses(ARITHMETIC, "greatest squared", large, () -> large.desk.power(0, 2, 9));
    }

    private static void isRoot(BigInteger a, int n) {
        Desk desk = with(a);
        desk.desk.root(0, n, 1);
        BigInteger root = desk.get(1);
        Check.that("root " + n + " of " + a + " is too great: " + root, root.pow(n).compareTo(a) <= 0);
        Check.that("root " + n + " of " + a + " is too small: " + root, root.add(big(1)).pow(n).compareTo(a) > 0);
        Check.that("root below 0", root.signum() >= 0);
    }

    private static void root() {
        for (int n = 1; n <= 64; n++) {
            for (long a : new long[] {0, 1, 2, 3, 4, 7, 8, 9, Long.MAX_VALUE}) {
                isRoot(big(a), n);
            }
            isRoot(GREATEST, n);
            isRoot(two(2047), n);
            BigInteger most = two(2048 / n).subtract(big(1)).pow(n);
            isRoot(most, n);
            isRoot(most.subtract(big(1)), n);
            isRoot(most.add(big(1)).min(GREATEST), n);
        }
        Desk desk = with(8, -8, 0);
        for (int n : new int[] {0, 65, -1, Integer.MIN_VALUE, Integer.MAX_VALUE}) {
            refuses(ARGUMENT, "root " + n, desk, () -> desk.desk.root(0, n, 9));
            refuses(ARGUMENT, "a wrong n comes before a number below 0: " + n, desk, () -> desk.desk.root(1, n, 9));
        }
        for (int n : new int[] {1, 2, 3, 64}) {
            refuses(ARITHMETIC, "root " + n + " of -8", desk, () -> desk.desk.root(1, n, 9));
        }
        desk.desk.root(0, 3, 0);
        holds("in its own register", desk, 0, 2);
    }

    private static void common() {
        for (long a = -6; a <= 6; a++) {
            for (long b = -6; b <= 6; b++) {
                Desk desk = with(a, b);
                desk.desk.common(0, 1, 2);
                holds("common of " + a + " and " + b, desk, 2, big(a).gcd(big(b)));
            }
        }
        Desk desk = with(GREATEST.negate(), big(0), two(1024).subtract(big(1)));
        desk.desk.common(0, 1, 3);
        holds("with 0", desk, 3, GREATEST);
        desk.desk.common(0, 2, 0);
        holds("into a", desk, 0, two(1024).subtract(big(1)));
        BigInteger[] fibonacci = fibonacci();
        Desk slow = with(fibonacci);
        slow.desk.common(0, 1, 2);
        holds("the most steps", slow, 2, 1);
    }

    /** The two greatest neighbours of Fibonacci's that registers can have: Euclid's way is longest there. */
    private static BigInteger[] fibonacci() {
        BigInteger low = BigInteger.ONE;
        BigInteger high = BigInteger.ONE;
        while (low.add(high).compareTo(GREATEST) <= 0) {
            BigInteger next = low.add(high);
            low = high;
            high = next;
        }
        return new BigInteger[] {low, high};
    }

    private static void inverse() {
        for (long a = -9; a <= 9; a++) {
            for (long m = 1; m <= 9; m++) {
                Desk desk = with(a, m);
                if (big(a).gcd(big(m)).equals(BigInteger.ONE)) {
                    desk.desk.inverse(0, 1, 2);
                    holds("inverse of " + a + " modulo " + m, desk, 2, big(a).modInverse(big(m)));
                } else {
                    refuses(ARITHMETIC, "no inverse of " + a + " modulo " + m, desk, () -> desk.desk.inverse(0, 1, 9));
                }
            }
        }
        BigInteger[] fibonacci = fibonacci();
        for (BigInteger[] pair : new BigInteger[][] {fibonacci, {GREATEST.negate(), two(2047)}, {big(2), GREATEST},
            {GREATEST.subtract(big(1)), GREATEST}, {big(0), big(1)}, {GREATEST, big(1)}}) {
            Desk desk = with(pair);
            desk.desk.inverse(0, 1, 2);
            holds("inverse of " + pair[0] + " modulo " + pair[1], desk, 2, pair[0].modInverse(pair[1]));
            desk.desk.inverse(0, 1, 1);
            holds("into m", desk, 1, pair[0].modInverse(pair[1]));
        }
        Desk desk = with(big(1), big(0), big(-3), GREATEST, big(5));
        refuses(ARITHMETIC, "inverse modulo 0", desk, () -> desk.desk.inverse(0, 1, 9));
        refuses(ARITHMETIC, "inverse modulo -3", desk, () -> desk.desk.inverse(0, 2, 9));
        refuses(ARITHMETIC, "5 divides the greatest", desk, () -> desk.desk.inverse(4, 3, 9));
    }

    private static void isPower(BigInteger a, BigInteger e, BigInteger m) {
        Desk desk = with(a, e, m);
        desk.desk.powerModulo(0, 1, 2, 3);
        holds(a + " to the " + e + " modulo " + m, desk, 3, a.modPow(e, m));
        desk.desk.powerModulo(0, 1, 2, 2);
        holds("into m", desk, 2, a.modPow(e, m));
    }

    private static void powerModulo() {
        for (long a = -4; a <= 4; a++) {
            for (long e = -4; e <= 4; e++) {
                for (long m = 1; m <= 6; m++) {
                    if (e >= 0 || big(a).gcd(big(m)).equals(BigInteger.ONE)) {
                        isPower(big(a), big(e), big(m));
                    } else {
                        Desk desk = with(a, e, m);
                        refuses(ARITHMETIC, a + " to the " + e + " modulo " + m, desk, () -> desk.desk.powerModulo(0, 1, 2, 9));
                    }
                }
            }
        }
        isPower(GREATEST.subtract(big(2)), GREATEST, two(2047).add(big(9)));
        isPower(GREATEST.negate(), GREATEST.negate(), two(2047));
        isPower(big(2), GREATEST, GREATEST);
        isPower(big(0), big(0), GREATEST);
        isPower(big(0), GREATEST, GREATEST);
        isPower(big(7), two(28), two(521).subtract(big(1)));
        isPower(big(0), GREATEST.negate(), big(1));
        Desk desk = with(2, 3, 0, -7);
        refuses(ARITHMETIC, "power modulo 0", desk, () -> desk.desk.powerModulo(0, 1, 2, 9));
        refuses(ARITHMETIC, "power modulo -7", desk, () -> desk.desk.powerModulo(0, 1, 3, 9));
        desk.desk.powerModulo(0, 2, 1, 2);
        holds("to the 0, into e", desk, 2, 1);
    }

    private static BigInteger joined(BigInteger a, BigInteger b, int how) {
        BigInteger[] all = {a.and(b), a.or(b), a.xor(b), a.andNot(b)};
        return all[how];
    }

    private static void combines(BigInteger a, BigInteger b, int how) {
        Desk desk = with(a, b);
        String what = a + " combined with " + b + " by " + how;
        BigInteger due = joined(a, b, how);
        if (due.abs().compareTo(GREATEST) > 0) {
            refuses(ARITHMETIC, what, desk, () -> desk.desk.combine(0, 1, 9, how));
            return;
        }
        desk.desk.combine(0, 1, 0, how);
        holds(what, desk, 0, due);
    }

    private static void combine() {
        BigInteger[] values = {big(0), big(1), big(-1), big(5), big(-6), two(28), two(28).negate(), two(56).subtract(big(1)),
            two(56).negate(), two(2047), two(2047).negate(), GREATEST.shiftRight(1).negate()};
        for (BigInteger a : values) {
            for (BigInteger b : values) {
                for (int how = 0; how < 4; how++) {
                    combines(a, b, how);
                }
            }
        }
        Desk desk = with(GREATEST, GREATEST.negate(), big(-1), big(-2), big(1));
        for (int how : new int[] {-1, 4, Integer.MIN_VALUE, Integer.MAX_VALUE}) {
            refuses(ARGUMENT, "combine by " + how, desk, () -> desk.desk.combine(0, 1, 9, how));
        }
        refuses(ARITHMETIC, "least and -2: -(2 to the 2048)", desk, () -> desk.desk.combine(1, 3, 9, 0));
        refuses(ARITHMETIC, "greatest, just one with -1", desk, () -> desk.desk.combine(0, 2, 9, 2));
        refuses(ARITHMETIC, "least, but not 1", desk, () -> desk.desk.combine(1, 4, 9, 3));
        desk.desk.combine(0, 1, 5, 1);
        holds("greatest or least", desk, 5, -1);
        desk.desk.combine(0, 1, 5, 0);
        holds("greatest and least", desk, 5, 1);
        desk.desk.combine(2, 1, 5, 3);
        holds("-1, but not least", desk, 5, GREATEST.subtract(big(1)));
    }

    private static void shift() {
        BigInteger[] values = {big(0), big(1), big(-1), big(5), big(-5), big(-8), two(100).add(big(1)), two(100).negate(), big(-268435455)};
        for (BigInteger a : values) {
            for (int n : new int[] {0, 1, 2, 3, 27, 28, 29, 56, 99, 100, 101, 102, 1900, -1, -2, -3, -4, -27, -28, -29, -56,
                -99, -100, -101, -2047, -2048, -2049}) {
                Desk desk = with(a);
                desk.desk.shift(0, n, 0);
                holds(a + " shifted by " + n, desk, 0, a.shiftLeft(n));
            }
        }
        Desk desk = with(GREATEST, GREATEST.negate(), big(1), big(0), two(2047).negate());
        desk.desk.shift(2, 2047, 5);
        holds("1 by 2047", desk, 5, two(2047));
        int most = Integer.MAX_VALUE;
        for (int n : new int[] {2048, 2049, most - 2047, most}) {
            refuses(ARITHMETIC, "1 by " + n, desk, () -> desk.desk.shift(2, n, 9));
            desk.desk.shift(3, n, 5);
            holds("0 by " + n, desk, 5, 0);
        }
        refuses(ARITHMETIC, "greatest by 1", desk, () -> desk.desk.shift(0, 1, 9));
        refuses(ARITHMETIC, "least by 1", desk, () -> desk.desk.shift(1, 1, 9));
        refuses(ARITHMETIC, "-(2 to the 2047) by 1", desk, () -> desk.desk.shift(4, 1, 9));
        for (int n : new int[] {-2048, -2049, -most, Integer.MIN_VALUE}) {
            desk.desk.shift(0, n, 5);
            holds("greatest by " + n, desk, 5, 0);
            desk.desk.shift(1, n, 5);
            holds("least by " + n, desk, 5, -1);
        }
        desk.desk.shift(1, -2047, 5);
        holds("least by -2047", desk, 5, -2);
        desk.desk.shift(4, -2047, 5);
        holds("-(2 to the 2047) by -2047", desk, 5, -1);
        desk.desk.shift(1, -1, 5);
        holds("least by -1", desk, 5, two(2047).negate());
    }

    private static void bit() {
        BigInteger[] values = {big(0), big(1), big(-1), big(10), big(-10), two(28).negate(), two(84).subtract(big(1)).negate(),
            GREATEST, GREATEST.negate()};
        for (BigInteger a : values) {
            Desk desk = with(a);
            for (int i : new int[] {0, 1, 2, 3, 4, 5, 27, 28, 29, 55, 56, 83, 84, 85, 2046, 2047, 2048, 2049, 4256, Integer.MAX_VALUE}) {
                Check.answers("bit " + i + " of " + a, desk.desk.bit(0, i), a.testBit(i) ? 1 : 0);
            }
            for (int i : new int[] {-1, -28, Integer.MIN_VALUE}) {
                Check.throwing(ARGUMENT, "bit " + i, () -> desk.desk.bit(0, i));
            }
        }
    }

    private static void compare() {
        BigInteger[] values = {GREATEST.negate(), two(2047).negate(), two(28).negate(), big(-2), big(-1), big(0), big(1), big(2),
            two(28), two(28).add(big(1)), two(2047), GREATEST};
        for (int a = 0; a < values.length; a++) {
            for (int b = 0; b < values.length; b++) {
                Desk desk = with(values[a], values[b]);
                Check.answers(values[a] + " against " + values[b], desk.desk.compare(0, 1), Integer.compare(a, b));
            }
            Desk desk = with(values[a]);
            Check.answers("against itself", desk.desk.compare(0, 0), 0);
        }
    }

    private static void told() {
        BigInteger[] values = {big(0), big(1), big(-1), big(2), big(-2), big(-3), big(12), big(-12), big(Long.MAX_VALUE),
            big(Long.MIN_VALUE), two(64), two(64).negate(), two(64).add(big(5)).negate(), two(2047), two(2047).negate(),
            GREATEST, GREATEST.negate(), two(56).multiply(big(-3))};
        for (BigInteger a : values) {
            Desk desk = with(a);
            Check.answers("lowest bits of " + a, desk.desk.told(0, 0), a.longValue());
            Check.answers("sign of " + a, desk.desk.told(0, 1), a.signum());
            Check.answers("length of " + a, desk.desk.told(0, 2), a.bitLength());
            Check.answers("bits unlike of " + a, desk.desk.told(0, 3), a.bitCount());
            Check.answers("lowest 1 of " + a, desk.desk.told(0, 4), a.getLowestSetBit());
            for (int what : new int[] {-1, 5, Integer.MIN_VALUE, Integer.MAX_VALUE}) {
                Check.throwing(ARGUMENT, "told " + what, () -> desk.desk.told(0, what));
            }
        }
        Check.answers("lowest 1 of 0", new WholeDesk().told(0, 4), WholeDesk.NONE);
    }

    private static void written() {
        BigInteger[] values = {big(0), big(1), big(-1), big(35), big(-36), two(27), two(28), two(28).negate(), big(60466176),
            big(60466175), big(100000000), big(-99999999), big(10).pow(80), two(600).subtract(big(1)).negate()};
        for (BigInteger a : values) {
            for (int base = 2; base <= 36; base++) {
                Desk desk = with(a);
                Check.same(a + " to " + base, desk.text(0, base), a.toString(base));
                Check.answers("how many characters", desk.desk.written(0, base), a.toString(base).length());
                holds("its register stays", desk, 0, a);
            }
        }
        for (int base = 2; base <= 36; base++) {
            Desk desk = with(GREATEST.negate());
            Check.same("least to " + base, desk.text(0, base), GREATEST.negate().toString(base));
        }
        Desk desk = with(5);
        Check.same("5", desk.text(0, 2), "101");
        for (int base : NO_BASES) {
            Check.throwing(ARGUMENT, "written to " + base, () -> desk.desk.written(0, base));
        }
        Check.answers("the text stays when written throws", desk.desk.text(0), Desk.packed("101", 0));
    }

    private static void text() {
        Desk desk = with(-1234567890123456789L);
        String text = desk.text(0, 10);
        for (int i = -12; i < 24; i++) {
            Check.answers("text from " + i, desk.desk.text(i), Desk.packed(text, i));
        }
        for (int i : new int[] {Integer.MAX_VALUE, Integer.MAX_VALUE - 7, Integer.MIN_VALUE, Integer.MIN_VALUE + 7, 2049, 2100}) {
            Check.answers("text from " + i, desk.desk.text(i), 0);
        }
        desk.set(0, 7);
        Check.answers("other numbers leave the text", desk.desk.text(0), Desk.packed(text, 0));
        desk.desk.written(0, 10);
        Check.answers("a shorter text leaves nothing of a longer one", desk.desk.text(0), '7');
        Check.answers("before it", desk.desk.text(-7), (long) '7' << 56);
        Check.answers("behind it", desk.desk.text(1), 0);
    }

    /** Wrong registers are told first, even where the call would throw something else too. */
    private static void registersFirst() {
        Desk desk = with(0, -1);
        for (int no : NO_REGISTERS) {
            WholeDesk d = desk.desk;
            Check.Call[] calls = {() -> d.read(no, 10), () -> d.put(no, 1), () -> d.add(no, 1, 9, false),
                () -> d.add(0, no, 9, true), () -> d.add(0, 1, no, true), () -> d.multiply(no, 1, 9), () -> d.multiply(0, no, 9),
                () -> d.multiply(0, 1, no), () -> d.divide(no, 0, 9, 9), () -> d.divide(0, no, 9, 9), () -> d.divide(0, 0, no, 9),
                () -> d.divide(0, 0, 9, no), () -> d.modulo(no, 0, 9), () -> d.modulo(0, no, 9), () -> d.modulo(0, 0, no),
                () -> d.power(no, 2, 9), () -> d.power(0, 2, no), () -> d.root(no, 2, 9), () -> d.root(1, 2, no),
                () -> d.common(no, 0, 9), () -> d.common(0, no, 9), () -> d.common(0, 0, no), () -> d.inverse(no, 0, 9),
                () -> d.inverse(0, no, 9), () -> d.inverse(0, 0, no), () -> d.powerModulo(no, 0, 0, 9),
                () -> d.powerModulo(0, no, 0, 9), () -> d.powerModulo(0, 0, no, 9), () -> d.powerModulo(0, 0, 0, no),
                () -> d.combine(no, 0, 9, 0), () -> d.combine(0, no, 9, 0), () -> d.combine(0, 0, no, 0),
                () -> d.shift(no, 1, 9), () -> d.shift(0, 1, no), () -> d.bit(no, 0), () -> d.compare(no, 0),
                () -> d.compare(0, no), () -> d.told(no, 0), () -> d.written(no, 10)};
            for (int i = 0; i < calls.length; i++) {
                Check.throwing(ARGUMENT, "register " + no + " in call " + i, calls[i]);
            }
        }
        holds("register 9", desk, 9, 77);
    }

    private static void throwingChangesNothing() {
        Desk desk = with(GREATEST, big(2), big(0), big(-3));
        WholeDesk d = desk.desk;
        String before = desk.text(1, 2);
        desk.draft("12x");
        Check.Call[] calls = {() -> d.add(0, 0, 0, false), () -> d.multiply(0, 1, 1), () -> d.divide(0, 2, 0, 1),
            () -> d.modulo(0, 3, 0), () -> d.power(0, 2, 0), () -> d.root(3, 3, 3), () -> d.inverse(2, 0, 0),
            () -> d.powerModulo(2, 3, 0, 3), () -> d.shift(0, 1, 0)};
        for (int i = 0; i < calls.length; i++) {
            Check.throwing(ARITHMETIC, "call " + i, calls[i]);
        }
        Check.throwing(STATE, "read", () -> d.read(0, 10));
        Check.throwing(ARGUMENT, "write", () -> d.write(9, 0));
        Check.throwing(ARGUMENT, "written", () -> d.written(0, 99));
        Check.answers("the text", d.text(0), Desk.packed(before, 0));
        Check.answers("the draft", d.wipe(), 3);
        holds("register 0", desk, 0, GREATEST);
        holds("register 1", desk, 1, 2);
        holds("register 2", desk, 2, 0);
        holds("register 3", desk, 3, -3);
    }
}
