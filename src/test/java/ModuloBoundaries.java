import java.math.BigInteger;

/** The boundaries in the promises 9, 13 and 14: modulo, inverses, and powers modulo others. */
final class ModuloBoundaries extends Numbers {
    private static final BigInteger[] NOT_ABOVE_ZERO = {big(0), big(-1), big(-7), LEAST};

    private ModuloBoundaries() {
    }

    static void test() {
        modulo();
        moduloNotAboveZero();
        inverse();
        noInverse();
        powerModulo();
        powerModuloBelowZero();
        noPowerModulo();
    }

    private static void modulo() {
        Document.says(9, "a modulo m.");
        Scene.with(-1, 7).gives(0, 6, "into a", d -> d.modulo(0, 1, 0));
        Scene.with(-1, 7).gives(1, 6, "into m", d -> d.modulo(0, 1, 1));
        Scene.with(7).gives(0, 0, "itself, into itself", d -> d.modulo(0, 0, 0));
        Scene.with(near(GREATEST, -1), GREATEST).gives(9, near(GREATEST, -1), "m - 1", d -> d.modulo(0, 1, 9));
        Scene.with(GREATEST, GREATEST).gives(9, 0, "m", d -> d.modulo(0, 1, 9));
        Scene.with(LEAST, GREATEST).gives(9, 0, "-m", d -> d.modulo(0, 1, 9));
        Scene.with(near(LEAST, 1), GREATEST).gives(9, 1, "1 - m", d -> d.modulo(0, 1, 9));
        Scene.with(big(-1), GREATEST).gives(9, near(GREATEST, -1), "-1", d -> d.modulo(0, 1, 9));
        Scene.with(LEAST, two(2047)).gives(9, 1, "least modulo 2 to the 2047", d -> d.modulo(0, 1, 9));
        Scene.with(LEAST, big(2)).gives(9, 1, "least modulo 2", d -> d.modulo(0, 1, 9));
        Scene.with(LEAST, big(1)).gives(9, 0, "least modulo 1", d -> d.modulo(0, 1, 9));
    }

    private static void moduloNotAboveZero() {
        Document.says(9, "ArithmeticException: m is not above 0.");
        for (BigInteger m : NOT_ABOVE_ZERO) {
            for (BigInteger a : new BigInteger[] {big(0), big(1), big(-1), GREATEST}) {
                Scene.with(a, m).refuses(ARITHMETIC, a + " modulo " + m, d -> d.modulo(0, 1, 9));
                Scene.with(a, m).refuses(ARITHMETIC, a + " modulo " + m + " into m", d -> d.modulo(0, 1, 1));
            }
        }
        Scene.with(5, 1).gives(9, 0, "5 modulo 1", d -> d.modulo(0, 1, 9));
        Scene.with(-5, 1).gives(9, 0, "-5 modulo 1", d -> d.modulo(0, 1, 9));
    }

    private static void inverse() {
        Document.says(13, "The integer from 0 up to m - 1 that times a is 1 modulo m; 0 for the m 1.");
        for (BigInteger a : new BigInteger[] {big(0), big(1), big(-1), big(2), GREATEST, LEAST}) {
            Scene.with(a, big(1)).gives(9, 0, a + " modulo 1", d -> d.inverse(0, 1, 9));
        }
        Scene.with(1).gives(0, 0, "1 modulo itself, into itself", d -> d.inverse(0, 0, 0));
        for (BigInteger m : new BigInteger[] {big(2), big(3), big(10), near(two(28), -1), two(28), near(two(28), 1), near(two(64), 1),
            two(2047), near(GREATEST, -1), GREATEST}) {
            BigInteger last = near(m, -1);
            Scene.with(big(1), m).gives(9, 1, "1 modulo " + m, d -> d.inverse(0, 1, 9));
            Scene.with(big(-1), m).gives(9, last, "-1 modulo " + m, d -> d.inverse(0, 1, 9));
            Scene.with(last, m).gives(9, last, "m - 1 modulo " + m, d -> d.inverse(0, 1, 9));
            Scene.with(last.negate(), m).gives(9, 1, "1 - m modulo " + m, d -> d.inverse(0, 1, 9));
            if (m.compareTo(GREATEST) < 0) {
                Scene.with(near(m, 1), m).gives(9, 1, "m and 1 modulo " + m, d -> d.inverse(0, 1, 9));
                Scene.with(near(m, 1).negate(), m).gives(9, last, "-1 - m modulo " + m, d -> d.inverse(0, 1, 9));
            }
            if (m.testBit(0)) {
                BigInteger half = near(m, 1).shiftRight(1);
                Scene.with(big(2), m).gives(9, half, "2 modulo " + m, d -> d.inverse(0, 1, 9));
                Scene.with(half, m).gives(0, big(2).mod(m), "its half modulo " + m, d -> d.inverse(0, 1, 0));
            }
        }
        Scene.with(3, 10).gives(1, 7, "into m", d -> d.inverse(0, 1, 1));
    }

    private static void noInverse() {
        Document.says(13, "ArithmeticException: m is not above 0, or there is none such.");
        for (BigInteger m : NOT_ABOVE_ZERO) {
            for (BigInteger a : new BigInteger[] {big(0), big(1), big(-1), GREATEST}) {
                Scene.with(a, m).refuses(ARITHMETIC, "inverse of " + a + " modulo " + m, d -> d.inverse(0, 1, 9));
            }
        }
        BigInteger[][] none = {{big(0), big(2)}, {big(0), GREATEST}, {big(2), big(2)}, {big(-2), big(2)}, {big(2), big(4)}, {big(6), big(9)},
            {big(-6), big(9)}, {GREATEST, GREATEST}, {LEAST, GREATEST}, {big(3), GREATEST}, {big(2), two(2047)}, {two(2047), big(2)}};
        for (BigInteger[] row : none) {
            String what = "inverse of " + row[0] + " modulo " + row[1];
            Scene.with(row).refuses(ARITHMETIC, what, d -> d.inverse(0, 1, 9));
            Scene.with(row).refuses(ARITHMETIC, what + " into a", d -> d.inverse(0, 1, 0));
        }
    }

    private static void powerModulo() {
        Document.says(14, "a to the power e, modulo m; with e below 0 the inverse of a modulo m to the power -e.");
        BigInteger[] moduli = {big(2), big(3), two(28), near(two(64), 1), two(2047), near(GREATEST, -1), GREATEST};
        for (BigInteger m : moduli) {
            for (BigInteger a : new BigInteger[] {big(0), big(1), big(-1), near(m, -1), m, GREATEST, LEAST}) {
                raises(a, big(0), m, big(1));
                raises(a, big(1), m, a.mod(m));
                raises(a, big(2), m, a.multiply(a).mod(m));
            }
            raises(big(1), GREATEST, m, big(1));
            raises(big(0), GREATEST, m, big(0));
            raises(big(-1), GREATEST, m, near(m, -1));
            raises(big(-1), near(GREATEST, -1), m, big(1));
        }
        for (BigInteger e : new BigInteger[] {big(0), big(1), big(-1), GREATEST, LEAST}) {
            raises(big(5), e, big(1), big(0));
            raises(big(0), e, big(1), big(0));
        }
        // 2 to the 2048 is 1 modulo the greatest.
        raises(big(2), big(2047), GREATEST, two(2047));
        raises(big(2), big(2048), GREATEST, big(1));
        raises(big(2), big(2049), GREATEST, big(2));
        raises(big(2), two(2047), GREATEST, big(1));
        raises(big(2), GREATEST, GREATEST, two(2047));
        Scene.with(3, 4, 100).gives(0, 81, "into a", d -> d.powerModulo(0, 1, 2, 0));
        Scene.with(3, 4, 100).gives(1, 81, "into e", d -> d.powerModulo(0, 1, 2, 1));
        Scene.with(3, 4, 100).gives(2, 81, "into m", d -> d.powerModulo(0, 1, 2, 2));
        Scene.with(7).gives(0, 0, "all in one", d -> d.powerModulo(0, 0, 0, 0));
        Scene.with(1).gives(0, 0, "1 for all in one", d -> d.powerModulo(0, 0, 0, 0));
    }

    private static void raises(BigInteger a, BigInteger e, BigInteger m, BigInteger due) {
        Scene.with(a, e, m).gives(9, due, a + " to the " + e + " modulo " + m, d -> d.powerModulo(0, 1, 2, 9));
    }

    private static void powerModuloBelowZero() {
        raises(big(3), big(-1), big(10), big(7));
        raises(big(3), big(-2), big(10), big(9));
        raises(big(3), big(-3), big(10), big(3));
        raises(big(-3), big(-1), big(10), big(3));
        raises(big(13), big(-1), big(10), big(7));
        raises(big(2), big(-1), GREATEST, two(2047));
        raises(big(2), big(-2047), GREATEST, big(2));
        raises(big(2), big(-2048), GREATEST, big(1));
        raises(big(2), LEAST, GREATEST, big(2));
        raises(big(-1), LEAST, GREATEST, near(GREATEST, -1));
        raises(big(1), LEAST, two(2047), big(1));
    }

    private static void noPowerModulo() {
        Document.says(14, "ArithmeticException: m is not above 0, or e is below 0 and a has no inverse.");
        for (BigInteger m : NOT_ABOVE_ZERO) {
            for (BigInteger e : new BigInteger[] {big(0), big(1), big(-1)}) {
                Scene.with(big(5), e, m).refuses(ARITHMETIC, "5 to the " + e + " modulo " + m, d -> d.powerModulo(0, 1, 2, 9));
                Scene.with(big(0), e, m).refuses(ARITHMETIC, "0 to the " + e + " modulo " + m, d -> d.powerModulo(0, 1, 2, 2));
            }
        }
        BigInteger[][] none = {{big(0), big(2)}, {big(2), big(2)}, {big(2), big(4)}, {big(6), big(9)}, {big(-6), big(9)},
            {GREATEST, GREATEST}, {big(3), GREATEST}, {two(2047), big(2)}};
        for (BigInteger[] row : none) {
            for (BigInteger e : new BigInteger[] {big(-1), big(-2), LEAST}) {
                String what = row[0] + " to the " + e + " modulo " + row[1];
                Scene.with(row[0], e, row[1]).refuses(ARITHMETIC, what, d -> d.powerModulo(0, 1, 2, 9));
            }
            raises(row[0], big(0), row[1], big(1));
            raises(row[0], big(1), row[1], row[0].mod(row[1]));
        }
    }
}
