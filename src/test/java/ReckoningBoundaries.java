import java.math.BigInteger;

/** The boundaries in the promises 6 to 8, 10 to 12 and 18: sums, products, quotients, powers, roots, order. */
final class ReckoningBoundaries extends Numbers {
    /** Numbers beside which carries, signs and lengths change. */
    private static final BigInteger[] EDGES = {LEAST, two(2047).negate(), two(64).negate(), two(28).negate(), big(-2), big(-1), big(0),
        big(1), big(2), near(two(28), -1), two(28), near(two(56), -1), two(56), two(63), near(two(64), -1), two(64), two(1024),
        near(two(2044), -1), two(2044), near(two(2047), -1), two(2047), near(GREATEST, -1)};

    private ReckoningBoundaries() {
    }

    static void test() {
        add();
        multiply();
        divide();
        divideByZero();
        power();
        powerBelowZero();
        root();
        rootOfWrongDegree();
        rootBelowZero();
        common();
        compare();
    }

    private static boolean fits(BigInteger value) {
        return value.abs().compareTo(GREATEST) <= 0;
    }

    private static void gives(BigInteger due, String what, Scene scene, Scene.Use call) {
        if (fits(due)) {
            scene.gives(9, due, what, call);
        } else {
            scene.refuses(ARITHMETIC, what, call);
        }
    }

    private static void add() {
        Document.says(6, "a and b, or a less b.");
        for (BigInteger a : EDGES) {
            for (BigInteger b : new BigInteger[] {big(-1), big(0), big(1), a, a.negate(), near(a.negate(), 1)}) {
                if (fits(b)) {
                    gives(a.add(b), a + " and " + b, Scene.with(a, b), d -> d.add(0, 1, 9, false));
                    gives(a.subtract(b), a + " less " + b, Scene.with(a, b), d -> d.add(0, 1, 9, true));
                }
            }
        }
        Scene.with(GREATEST, LEAST).gives(9, 0, "greatest and least", d -> d.add(0, 1, 9, false));
        Scene.with(LEAST, LEAST).gives(9, 0, "least less least", d -> d.add(0, 1, 9, true));
        Scene.with(GREATEST, LEAST).refuses(ARITHMETIC, "greatest less least", d -> d.add(0, 1, 9, true));
        Scene.with(GREATEST).refuses(ARITHMETIC, "greatest and itself", d -> d.add(0, 0, 0, false));
        Scene.with(GREATEST).gives(0, 0, "greatest less itself", d -> d.add(0, 0, 0, true));
        Scene.with(two(2047), near(two(2047), -1)).gives(1, GREATEST, "halves into b", d -> d.add(0, 1, 1, false));
        Scene.with(two(2047)).refuses(ARITHMETIC, "two halves", d -> d.add(0, 0, 9, false));
    }

    private static void multiply() {
        Document.says(7, "a times b.");
        for (BigInteger a : EDGES) {
            for (long b = -2; b <= 2; b++) {
                BigInteger factor = big(b);
                gives(a.multiply(factor), a + " times " + b, Scene.with(a, factor), d -> d.multiply(0, 1, 9));
                gives(a.multiply(factor), b + " times " + a, Scene.with(factor, a), d -> d.multiply(0, 1, 9));
            }
        }
        for (int low : new int[] {1, 27, 28, 29, 1000, 1023, 1024}) {
            BigInteger a = two(low);
            Scene.with(a, two(2047 - low)).gives(9, two(2047), "2 to the 2047", d -> d.multiply(0, 1, 9));
            Scene.with(a, two(2048 - low)).refuses(ARITHMETIC, "2 to the 2048", d -> d.multiply(0, 1, 9));
            // The greatest is a times the quotient and a rest: with 1 more the product passes the limit.
            BigInteger odd = near(a, 1);
            BigInteger most = GREATEST.divide(odd);
            Scene.with(odd, most).gives(9, odd.multiply(most), "the last product", d -> d.multiply(0, 1, 9));
            Scene.with(odd, near(most, 1)).refuses(ARITHMETIC, "the first too large", d -> d.multiply(0, 1, 9));
            Scene.with(odd, most.negate()).gives(0, odd.multiply(most).negate(), "the last, below 0", d -> d.multiply(0, 1, 0));
            Scene.with(odd, near(most, 1).negate()).refuses(ARITHMETIC, "too large, below 0", d -> d.multiply(0, 1, 0));
        }
        BigInteger side = GREATEST.sqrt();
        Scene.with(side).gives(0, side.pow(2), "the last square, into itself", d -> d.multiply(0, 0, 0));
        Scene.with(near(side, 1)).refuses(ARITHMETIC, "the first square too large", d -> d.multiply(0, 0, 0));
        Scene.with(GREATEST).refuses(ARITHMETIC, "the greatest squared", d -> d.multiply(0, 0, 9));
        Scene.with(LEAST).refuses(ARITHMETIC, "the least squared", d -> d.multiply(0, 0, 9));
        Scene.with(GREATEST, LEAST).refuses(ARITHMETIC, "greatest times least", d -> d.multiply(0, 1, 9));
    }

    private static void divide() {
        Document.says(8, "One register gets the quotient of a and b, then another one the rest (if they are the same, it has the rest).");
        Scene.with(17, -5).gives(9, 2, "both into one", d -> d.divide(0, 1, 9, 9));
        Scene.with(17, -5).gives(0, 2, "both into a", d -> d.divide(0, 1, 0, 0));
        Scene.with(17, -5).gives(1, 2, "both into b", d -> d.divide(0, 1, 1, 1));
        Scene.with(17, -5).gives(0, big(-3), 1, big(2), "quotient into a, rest into b", d -> d.divide(0, 1, 0, 1));
        Scene.with(17, -5).gives(1, big(-3), 0, big(2), "quotient into b, rest into a", d -> d.divide(0, 1, 1, 0));
        Scene.with(17, -5).gives(1, big(-3), 9, big(2), "quotient into b", d -> d.divide(0, 1, 1, 9));
        Scene.with(17, -5).gives(9, big(-3), 1, big(2), "rest into b", d -> d.divide(0, 1, 9, 1));
        Scene.with(17).gives(0, 0, "by itself, both into itself", d -> d.divide(0, 0, 0, 0));
        Scene.with(17).gives(0, big(1), 9, big(0), "by itself, quotient into itself", d -> d.divide(0, 0, 0, 9));
        for (BigInteger b : EDGES) {
            for (BigInteger a : EDGES) {
                for (int by = -1; by <= 1 && b.signum() != 0; by++) {
                    BigInteger dividend = near(a, by);
                    if (fits(dividend)) {
                        BigInteger[] due = dividend.divideAndRemainder(b);
                        Scene.with(dividend, b).gives(8, due[0], 9, due[1], dividend + " by " + b, d -> d.divide(0, 1, 8, 9));
                    }
                }
            }
        }
    }

    private static void divideByZero() {
        Document.says(8, "ArithmeticException: b is 0.");
        for (BigInteger a : new BigInteger[] {big(0), big(1), big(-1), GREATEST, LEAST}) {
            Scene.with(a, big(0)).refuses(ARITHMETIC, a + " by 0", d -> d.divide(0, 1, 8, 9));
            Scene.with(a, big(0)).refuses(ARITHMETIC, a + " by 0, into both", d -> d.divide(0, 1, 0, 1));
            Scene.with(a, big(1)).gives(8, a, 9, big(0), a + " by 1", d -> d.divide(0, 1, 8, 9));
            Scene.with(a, big(-1)).gives(8, a.negate(), 9, big(0), a + " by -1", d -> d.divide(0, 1, 8, 9));
        }
        Scene.with(0).refuses(ARITHMETIC, "0 by itself", d -> d.divide(0, 0, 0, 0));
        // A 0 that a call has left where a number below 0 or a large one was is 0, too.
        Desk desk = new Desk();
        desk.set(0, LEAST);
        desk.desk.add(0, 0, 0, true);
        Check.throwing(ARITHMETIC, "by the 0 of a difference", () -> desk.desk.divide(1, 0, 2, 3));
        desk.set(0, -5);
        desk.desk.multiply(0, 1, 0);
        Check.throwing(ARITHMETIC, "by the 0 of a product", () -> desk.desk.divide(1, 0, 2, 3));
        desk.set(0, -5);
        desk.set(1, 5);
        desk.desk.divide(0, 1, 2, 3);
        Check.throwing(ARITHMETIC, "by a rest of 0", () -> desk.desk.divide(1, 3, 2, 3));
        desk.draft("-0");
        desk.desk.read(3, 10);
        Check.throwing(ARITHMETIC, "by -0", () -> desk.desk.divide(1, 3, 2, 3));
    }

    private static void power() {
        Document.says(10, "a to the power n; to the power 0 it is 1.");
        int most = Integer.MAX_VALUE;
        for (BigInteger a : EDGES) {
            Scene.with(a).gives(9, 1, a + " to the 0", d -> d.power(0, 0, 9));
            Scene.with(a).gives(0, 1, a + " to the 0, into itself", d -> d.power(0, 0, 0));
            Scene.with(a).gives(9, a, a + " to the 1", d -> d.power(0, 1, 9));
            gives(a.pow(2), a + " to the 2", Scene.with(a), d -> d.power(0, 2, 9));
            gives(a.pow(3), a + " to the 3", Scene.with(a), d -> d.power(0, 3, 9));
            if (a.abs().bitLength() > 1) {
                Scene.with(a).refuses(ARITHMETIC, a + " to the greatest", d -> d.power(0, most, 9));
                Scene.with(a).refuses(ARITHMETIC, a + " to the 65536", d -> d.power(0, 65536, 9));
            }
        }
        Scene.with(0).gives(9, 0, "0 to the greatest", d -> d.power(0, most, 9));
        Scene.with(1).gives(9, 1, "1 to the greatest", d -> d.power(0, most, 9));
        Scene.with(-1).gives(9, -1, "-1 to the greatest", d -> d.power(0, most, 9));
        Scene.with(-1).gives(9, 1, "-1 to the greatest but one", d -> d.power(0, most - 1, 9));
        for (long size = 2; size <= 40; size++) {
            lastPower(big(size));
        }
        for (BigInteger size : new BigInteger[] {near(two(28), -1), two(28), near(two(64), 1), two(512), near(two(512), -1), two(682),
            near(two(683), -1), near(two(1024), -1), two(1024), GREATEST}) {
            lastPower(size);
        }
    }

    /** The last n for which a number's power n is within the limit, and the next one. */
    private static void lastPower(BigInteger size) {
        int n = 0;
        while (fits(size.pow(n + 1))) {
            n++;
        }
        int last = n;
        for (BigInteger a : new BigInteger[] {size, size.negate()}) {
            Scene.with(a).gives(9, a.pow(last), a + " to the " + last, d -> d.power(0, last, 9));
            Scene.with(a).refuses(ARITHMETIC, a + " to the " + (last + 1), d -> d.power(0, last + 1, 9));
            Scene.with(a).refuses(ARITHMETIC, a + " to the " + (last + 2), d -> d.power(0, last + 2, 9));
        }
    }

    private static void powerBelowZero() {
        Document.says(10, "IllegalArgumentException, too: n is below 0.");
        for (BigInteger a : new BigInteger[] {big(0), big(1), big(-1), big(2), GREATEST, LEAST}) {
            Scene.with(a).refuses(ARGUMENT, a + " to the -1", d -> d.power(0, -1, 9));
            Scene.with(a).refuses(ARGUMENT, a + " to the least", d -> d.power(0, Integer.MIN_VALUE, 9));
            Scene.with(a).gives(9, 1, a + " to the 0", d -> d.power(0, 0, 9));
        }
    }

    private static void root() {
        Document.says(11, "The greatest integer of which the power n is not greater than a.");
        for (int n = 1; n <= 64; n++) {
            int degree = n;
            for (BigInteger root : new BigInteger[] {big(1), big(2), big(3), lastRoot(n)}) {
                BigInteger a = root.pow(n);
                Scene.with(near(a, -1)).gives(9, near(root, -1), "root " + n + " of " + a + " less 1", d -> d.root(0, degree, 9));
                Scene.with(a).gives(9, root, "root " + n + " of " + a, d -> d.root(0, degree, 9));
                if (n > 1 && fits(near(a, 1))) {
                    Scene.with(near(a, 1)).gives(9, root, "root " + n + " of " + a + " and 1", d -> d.root(0, degree, 9));
                }
            }
            Scene.with(0).gives(9, 0, "root " + n + " of 0", d -> d.root(0, degree, 9));
            Scene.with(GREATEST).gives(0, lastRoot(n), "root " + n + " of the greatest, into itself", d -> d.root(0, degree, 0));
        }
    }

    /** The greatest integer whose power n a register can have. */
    private static BigInteger lastRoot(int n) {
        BigInteger root = BigInteger.ZERO;
        for (int i = 2048 / n; i >= 0; i--) {
            if (fits(root.setBit(i).pow(n))) {
                root = root.setBit(i);
            }
        }
        return root;
    }

    private static void rootOfWrongDegree() {
        Document.says(11, "IllegalArgumentException, too: n is not 1 .. 64.");
        for (int n : new int[] {0, 65, -1, Integer.MIN_VALUE, Integer.MAX_VALUE}) {
            for (BigInteger a : new BigInteger[] {big(0), big(1), big(-1), GREATEST}) {
                Scene.with(a).refuses(ARGUMENT, "root " + n + " of " + a, d -> d.root(0, n, 9));
            }
        }
        Scene.with(GREATEST).gives(9, GREATEST, "root 1", d -> d.root(0, 1, 9));
        Scene.with(near(two(64), -1)).gives(9, 1, "root 64 just under 2", d -> d.root(0, 64, 9));
        Scene.with(two(64)).gives(9, 2, "root 64 of 2 to the 64", d -> d.root(0, 64, 9));
    }

    private static void rootBelowZero() {
        Document.says(11, "ArithmeticException: a is below 0.");
        for (int n : new int[] {1, 2, 3, 63, 64}) {
            for (BigInteger a : new BigInteger[] {big(-1), big(-8), LEAST}) {
                Scene.with(a).refuses(ARITHMETIC, "root " + n + " of " + a, d -> d.root(0, n, 9));
            }
            Scene.with(0).gives(9, 0, "root " + n + " of 0", d -> d.root(0, n, 9));
            Scene.with(1).gives(9, 1, "root " + n + " of 1", d -> d.root(0, n, 9));
        }
    }

    private static void common() {
        Document.says(12, "The greatest integer that divides both; 0 if both are 0.");
        Scene.with(0, 0).gives(9, 0, "both 0", d -> d.common(0, 1, 9));
        Scene.with(0).gives(0, 0, "0 and itself", d -> d.common(0, 0, 0));
        for (BigInteger a : EDGES) {
            Scene.with(a, big(0)).gives(9, a.abs(), a + " and 0", d -> d.common(0, 1, 9));
            Scene.with(big(0), a).gives(9, a.abs(), "0 and " + a, d -> d.common(0, 1, 9));
            Scene.with(a, big(1)).gives(9, 1, a + " and 1", d -> d.common(0, 1, 9));
            Scene.with(a, big(-1)).gives(1, 1, a + " and -1", d -> d.common(0, 1, 1));
            Scene.with(a).gives(9, a.abs(), a + " and itself", d -> d.common(0, 0, 9));
            Scene.with(a, a.negate()).gives(0, a.abs(), a + " and the negative", d -> d.common(0, 1, 0));
        }
        Scene.with(12, 18).gives(9, 6, "12 and 18", d -> d.common(0, 1, 9));
        Scene.with(-12, 18).gives(9, 6, "-12 and 18", d -> d.common(0, 1, 9));
        Scene.with(12, -18).gives(9, 6, "12 and -18", d -> d.common(0, 1, 9));
        Scene.with(-12, -18).gives(9, 6, "-12 and -18", d -> d.common(0, 1, 9));
        Scene.with(GREATEST, near(GREATEST, -1)).gives(9, 1, "neighbours", d -> d.common(0, 1, 9));
        Scene.with(LEAST, near(two(1024), -1)).gives(9, near(two(1024), -1), "a factor", d -> d.common(0, 1, 9));
    }

    private static void compare() {
        Document.says(18, "-1, 0 or 1, as a is less than, the same as, or greater than b.");
        for (BigInteger a : EDGES) {
            Scene.with(a, a).answers(0, a + " and the same", d -> d.compare(0, 1));
            Scene.with(a).answers(0, a + " and itself", d -> d.compare(0, 0));
            Scene.with(a, near(a, 1)).answers(-1, a + " and 1 more", d -> d.compare(0, 1));
            Scene.with(near(a, 1), a).answers(1, "1 more and " + a, d -> d.compare(0, 1));
            Scene.with(a, a.negate()).answers(a.signum(), a + " and the negative", d -> d.compare(0, 1));
        }
        Scene.with(LEAST, GREATEST).answers(-1, "least and greatest", d -> d.compare(0, 1));
        Scene.with(GREATEST, LEAST).answers(1, "greatest and least", d -> d.compare(0, 1));
        Desk desk = new Desk();
        desk.set(0, LEAST);
        desk.desk.add(0, 0, 0, true);
        Check.answers("the 0 of a difference below 0, and 0", desk.desk.compare(0, 1), 0);
        desk.draft("-0");
        desk.desk.read(0, 10);
        Check.answers("-0 and 0", desk.desk.compare(0, 1), 0);
        Check.answers("0 and -0", desk.desk.compare(1, 0), 0);
    }
}
