import java.math.BigInteger;

/** The boundaries in the promises 15 to 17 and 19: combined bits, shifts, single bits, what is told. */
final class BitBoundaries extends Numbers {
    private BitBoundaries() {
    }

    static void test() {
        combine();
        combineWrongHow();
        shift();
        bit();
        bitBelowZero();
        told();
        toldWrongWhat();
    }

    private static void combine() {
        Document.says(15, "The integer each bit of which is made of those of a and b: 1 if both are (how = 0), if one is or both are (1), "
                + "if just one is (2), if that of a is, but not that of b (3).");
        // The bits 0011 and 0101 have all pairs; with the signs all pairs stand far up, too.
        long[][] rows = {{3, 5, 1, 7, 6, 2}, {3, -11, 1, -9, -10, 2}, {-13, 5, 1, -9, -10, -14}, {-13, -11, -15, -9, 6, 2},
            {0, 0, 0, 0, 0, 0}, {0, -1, 0, -1, -1, 0}, {-1, 0, 0, -1, -1, -1}, {-1, -1, -1, -1, 0, 0}};
        for (long[] row : rows) {
            for (int how = 0; how < 4; how++) {
                int by = how;
                Scene.with(row[0], row[1]).gives(9, row[2 + how], row[0] + " with " + row[1] + " by " + how, d -> d.combine(0, 1, 9, by));
            }
        }
        atTheLimit(LEAST, big(-1), LEAST, big(-1), near(GREATEST, -1), big(0));
        atTheLimit(LEAST, big(-2), null, big(-1), GREATEST, big(1));
        atTheLimit(LEAST, big(0), big(0), LEAST, LEAST, LEAST);
        atTheLimit(LEAST, big(1), big(1), LEAST, null, null);
        atTheLimit(GREATEST, big(-1), GREATEST, big(-1), null, big(0));
        atTheLimit(GREATEST, big(-2), near(GREATEST, -1), big(-1), LEAST, big(1));
        atTheLimit(GREATEST, big(0), big(0), GREATEST, GREATEST, GREATEST);
        atTheLimit(GREATEST, LEAST, big(1), big(-1), big(-2), near(GREATEST, -1));
        atTheLimit(LEAST, GREATEST, big(1), big(-1), big(-2), null);
        atTheLimit(LEAST, LEAST, LEAST, LEAST, big(0), big(0));
        atTheLimit(near(LEAST, 1), LEAST, null, near(LEAST, 2), big(3), big(2));
        atTheLimit(big(-1), LEAST, LEAST, big(-1), near(GREATEST, -1), near(GREATEST, -1));
        atTheLimit(big(-1), GREATEST, GREATEST, big(-1), null, null);
        atTheLimit(big(-1), near(GREATEST, -1), near(GREATEST, -1), big(-1), LEAST, LEAST);
        Scene.with(3, 5).gives(0, 6, "into a", d -> d.combine(0, 1, 0, 2));
        Scene.with(3, 5).gives(1, 2, "into b", d -> d.combine(0, 1, 1, 3));
        Scene.with(LEAST).gives(0, 0, "just one, with itself, into itself", d -> d.combine(0, 0, 0, 2));
    }

    /** The answer due for each how, null where it is -(2 to the 2048), which no register can have. */
    private static void atTheLimit(BigInteger a, BigInteger b, BigInteger... dues) {
        for (int how = 0; how < 4; how++) {
            int by = how;
            String what = a + " with " + b + " by " + how;
            if (dues[how] == null) {
                Scene.with(a, b).refuses(ARITHMETIC, what, d -> d.combine(0, 1, 9, by));
            } else {
                Scene.with(a, b).gives(9, dues[how], what, d -> d.combine(0, 1, 9, by));
            }
        }
    }

    private static void combineWrongHow() {
        Document.says(15, "IllegalArgumentException, too: how is not 0 .. 3.");
        for (int how : new int[] {-1, 4, Integer.MIN_VALUE, Integer.MAX_VALUE}) {
            Scene.with(3, 5).refuses(ARGUMENT, "combine by " + how, d -> d.combine(0, 1, 9, how));
            Scene.with(0, 0).refuses(ARGUMENT, "0 and 0 by " + how, d -> d.combine(0, 1, 9, how));
        }
        Scene.with(3, 5).gives(9, 1, "by 0", d -> d.combine(0, 1, 9, 0));
        Scene.with(3, 5).gives(9, 2, "by 3", d -> d.combine(0, 1, 9, 3));
    }

    private static void shift() {
        Document.says(16, "a times 2 to the n; for n below 0 a divided by 2 to the -n, rounded to the next integer that is not greater.");
        int most = Integer.MAX_VALUE;
        int least = Integer.MIN_VALUE;
        for (BigInteger a : new BigInteger[] {big(0), big(1), big(-1), GREATEST, LEAST}) {
            Scene.with(a).gives(9, a, a + " by 0", d -> d.shift(0, 0, 9));
            Scene.with(a).gives(0, a, a + " by 0, into itself", d -> d.shift(0, 0, 0));
            for (int n : new int[] {-2048, -2049, -4256, -most, least}) {
                Scene.with(a).gives(9, a.signum() < 0 ? -1 : 0, a + " by " + n, d -> d.shift(0, n, 9));
            }
            for (int n : new int[] {2048, 2049, 4256, most - 2048, most - 2047, most}) {
                if (a.signum() == 0) {
                    Scene.with(a).gives(9, 0, "0 by " + n, d -> d.shift(0, n, 9));
                } else {
                    Scene.with(a).refuses(ARITHMETIC, a + " by " + n, d -> d.shift(0, n, 9));
                }
            }
        }
        for (int bits : new int[] {1, 2, 27, 28, 29, 56, 57, 1024, 2047, 2048}) {
            for (BigInteger size : new BigInteger[] {near(two(bits), -1), two(bits - 1)}) {
                longestShift(size, 2048 - bits);
                longestShift(size.negate(), 2048 - bits);
            }
        }
        for (int k : new int[] {1, 2, 27, 28, 29, 55, 56, 57, 1000, 2046, 2047}) {
            roundedDown(k);
        }
    }

    private static void longestShift(BigInteger a, int n) {
        Scene.with(a).gives(9, a.shiftLeft(n), a + " by " + n, d -> d.shift(0, n, 9));
        Scene.with(a).refuses(ARITHMETIC, a + " by " + (n + 1), d -> d.shift(0, n + 1, 9));
        Scene.with(a).gives(0, a.shiftLeft(n), a + " by " + n + ", into itself", d -> d.shift(0, n, 0));
    }

    /** By 2 to the k: the last numbers with each answer, about 0 and about -(2 to the k). */
    private static void roundedDown(int k) {
        BigInteger step = two(k);
        BigInteger[][] rows = {{big(0), big(0)}, {near(step, -1), big(0)}, {step, big(1)}, {near(step, 1), big(1)},
            {big(-1), big(-1)}, {near(step, -1).negate(), big(-1)}, {step.negate(), big(-1)}, {near(step, 1).negate(), big(-2)}};
        for (BigInteger[] row : rows) {
            Scene.with(row[0]).gives(9, row[1], row[0] + " by -" + k, d -> d.shift(0, -k, 9));
        }
        Scene.with(GREATEST).gives(9, near(two(2048 - k), -1), "greatest by -" + k, d -> d.shift(0, -k, 9));
        Scene.with(LEAST).gives(9, two(2048 - k).negate(), "least by -" + k, d -> d.shift(0, -k, 9));
        Scene.with(two(2047).negate()).gives(0, two(2047 - k).negate(), "-(2 to the 2047) by -" + k, d -> d.shift(0, -k, 0));
    }

    private static void bit() {
        Document.says(17, "Bit i of a.");
        BigInteger pattern = new BigInteger("a5".repeat(200), 16);
        for (BigInteger a : new BigInteger[] {pattern, pattern.negate()}) {
            Desk low = new Desk();
            low.set(0, a);
            for (int i = 0; i < 400; i++) {
                Check.answers("bit " + i + " of " + a, low.desk.bit(0, i), a.testBit(i) ? 1 : 0);
            }
        }
        for (int i : new int[] {0, 27, 28, 2046, 2047}) {
            Scene.with(GREATEST).answers(1, "bit " + i + " of the greatest", d -> d.bit(0, i));
            Scene.with(LEAST).answers(i == 0 ? 1 : 0, "bit " + i + " of the least", d -> d.bit(0, i));
        }
        for (int i : new int[] {2048, 2049, 4255, 4256, Integer.MAX_VALUE - 1, Integer.MAX_VALUE}) {
            Scene.with(GREATEST).answers(0, "bit " + i + " of the greatest", d -> d.bit(0, i));
            Scene.with(LEAST).answers(1, "bit " + i + " of the least", d -> d.bit(0, i));
            Scene.with(0).answers(0, "bit " + i + " of 0", d -> d.bit(0, i));
        }
    }

    private static void bitBelowZero() {
        Document.says(17, "IllegalArgumentException, too: i is below 0.");
        for (BigInteger a : new BigInteger[] {big(0), big(1), big(-1), GREATEST}) {
            Scene.with(a).refuses(ARGUMENT, "bit -1 of " + a, d -> d.bit(0, -1));
            Scene.with(a).refuses(ARGUMENT, "the least bit of " + a, d -> d.bit(0, Integer.MIN_VALUE));
            Scene.with(a).answers(a.testBit(0) ? 1 : 0, "bit 0 of " + a, d -> d.bit(0, 0));
        }
    }

    private static void told() {
        Document.says(19, "Of a: the 64 lowest bits as a long (what = 0), its sign, -1, 0 or 1 (1), the least n for which a is below 2 to "
                + "the n and not below -(2 to the n) (2), how many bits are other ones than those far up (3), the least i for which "
                + "bit i is 1, NONE for 0 (4).");
        tells(big(0), 0, 0, 0, 0, WholeDesk.NONE);
        tells(big(1), 1, 1, 1, 1, 0);
        tells(big(-1), -1, -1, 0, 0, 0);
        tells(big(2), 2, 1, 2, 1, 1);
        tells(big(-2), -2, -1, 1, 1, 1);
        tells(big(-3), -3, -1, 2, 1, 0);
        tells(big(3), 3, 1, 2, 2, 0);
        tells(big(-4), -4, -1, 2, 2, 2);
        tells(big(-5), -5, -1, 3, 1, 0);
        long most = Long.MAX_VALUE;
        long least = Long.MIN_VALUE;
        tells(big(most), most, 1, 63, 63, 0);
        tells(two(63), least, 1, 64, 1, 63);
        tells(big(least), least, -1, 63, 63, 63);
        tells(near(big(least), -1), most, -1, 64, 1, 0);
        tells(near(two(64), -1), -1, 1, 64, 64, 0);
        tells(two(64), 0, 1, 65, 1, 64);
        tells(near(two(64), 1), 1, 1, 65, 2, 0);
        tells(two(64).negate(), 0, -1, 64, 64, 64);
        tells(near(two(64).negate(), 1), 1, -1, 64, 63, 0);
        tells(near(two(64).negate(), -1), -1, -1, 65, 1, 0);
        tells(GREATEST, -1, 1, 2048, 2048, 0);
        tells(near(GREATEST, -1), -2, 1, 2048, 2047, 1);
        tells(LEAST, 1, -1, 2048, 2047, 0);
        tells(near(LEAST, 1), 2, -1, 2048, 2047, 1);
        for (int k : new int[] {27, 28, 29, 55, 56, 57, 83, 84, 85, 2015, 2016, 2046, 2047}) {
            long low = k < 64 ? 1L << k : 0;
            tells(near(two(k), -1), low - 1, 1, k, k, 0);
            tells(two(k), low, 1, k + 1, 1, k);
            tells(near(two(k), 1), low + 1, 1, k + 1, 2, 0);
            tells(near(two(k).negate(), 1), 1 - low, -1, k, k - 1, 0);
            tells(two(k).negate(), -low, -1, k, k, k);
            tells(near(two(k).negate(), -1), -1 - low, -1, k + 1, 1, 0);
        }
        Desk desk = new Desk();
        desk.set(0, LEAST);
        desk.desk.add(0, 0, 0, true);
        Check.answers("sign of the 0 of a difference", desk.desk.told(0, 1), 0);
        Check.answers("lowest 1 of the 0 of a difference", desk.desk.told(0, 4), WholeDesk.NONE);
        desk.set(0, -5);
        desk.desk.multiply(0, 1, 0);
        Check.answers("sign of the 0 of a product", desk.desk.told(0, 1), 0);
    }

    private static void tells(BigInteger a, long... dues) {
        for (int what = 0; what < dues.length; what++) {
            int one = what;
            Scene.with(a).answers(dues[what], "told " + what + " of " + a, d -> d.told(0, one));
        }
    }

    private static void toldWrongWhat() {
        Document.says(19, "IllegalArgumentException, too: another what.");
        for (int what : new int[] {-1, 5, Integer.MIN_VALUE, Integer.MAX_VALUE}) {
            for (BigInteger a : new BigInteger[] {big(0), big(-1), GREATEST}) {
                Scene.with(a).refuses(ARGUMENT, "told " + what + " of " + a, d -> d.told(0, what));
            }
        }
        Scene.with(-6).answers(-6, "told 0", d -> d.told(0, 0));
        Scene.with(-6).answers(1, "told 4", d -> d.told(0, 4));
    }
}
