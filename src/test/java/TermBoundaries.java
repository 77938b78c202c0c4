import java.math.BigInteger;

/** The boundaries in "What it is" and in "Terms", which bind every call. */
final class TermBoundaries extends Numbers {
    private TermBoundaries() {
    }

    static void test() {
        wholeNumbersOfUpTo2048Bits();
        theLastPromisedCall();
        sizesBelowTheLimit();
        readingAtTheLimit();
        quotientsTowardsZero();
        moduloFromZeroToBelowM();
        bitsOfNumbersBelowZero();
        digitsOfEachBase();
        numberTexts();
        writtenNumbers();
        theFirstNamedIsThrown();
        everyRegisterIsTestedFirst();
        firstAndLastRegister();
        limitsThatAreNotNamedAgain();
    }

    private static void wholeNumbersOfUpTo2048Bits() {
        Document.says("What it is", "Whole numbers of up to 2048 bits in registers: sums, products, quotients and rests, "
                + "powers and roots, greatest common divisors, powers and inverses modulo others, bits as if they went on "
                + "without end, and texts to any base.");
        Desk desk = new Desk();
        desk.set(0, GREATEST);
        desk.set(1, LEAST);
        Check.answers("bits of the greatest", desk.desk.told(0, 2), 2048);
        Check.answers("bits of the least", desk.desk.told(1, 2), 2048);
        Check.same("the greatest", desk.get(0), GREATEST);
        Check.same("the least", desk.get(1), LEAST);
    }

    private static void theLastPromisedCall() {
        Document.says("What it is", "An object is used for at most 512 calls after it has been made; what later calls answer is free.");
        WholeDesk written = new WholeDesk();
        for (int i = 1; i < 512; i++) {
            written.put(0, i);
        }
        Check.answers("the 512th call tells", written.told(0, 0), 511);
        WholeDesk refused = new WholeDesk();
        for (int i = 1; i < 512; i++) {
            Check.throwing(ARITHMETIC, "refused call " + i, () -> refused.divide(0, 0, 1, 2));
        }
        Check.throwing(ARITHMETIC, "the 512th call refuses", () -> refused.inverse(0, 0, 1));
        WholeDesk full = new WholeDesk();
        for (int i = 1; i < 512; i++) {
            Check.answers("write " + i, full.write(5, 0), i <= 420 ? 5 * i : WholeDesk.NONE);
        }
        Check.answers("the 512th call wipes", full.wipe(), 2100);
    }

    private static void sizesBelowTheLimit() {
        Document.says("Terms", "REGISTERS 0 .. 9 have an integer each, at first 0, of a SIZE (it without its sign) below 2 to the "
                + "2048: a call that would put another one into a register throws ArithmeticException.");
        BigInteger low = near(GREATEST, -1);
        Scene.with(low, big(1)).gives(9, GREATEST, "add up to the limit", d -> d.add(0, 1, 9, false));
        Scene.with(GREATEST, big(1)).refuses(ARITHMETIC, "add beyond the limit", d -> d.add(0, 1, 9, false));
        Scene.with(low.negate(), big(-1)).gives(9, LEAST, "add down to the limit", d -> d.add(0, 1, 9, false));
        Scene.with(LEAST, big(-1)).refuses(ARITHMETIC, "add beyond the limit, below 0", d -> d.add(0, 1, 9, false));
        Scene.with(low, big(-1)).gives(9, GREATEST, "less, up to the limit", d -> d.add(0, 1, 9, true));
        Scene.with(GREATEST, big(-1)).refuses(ARITHMETIC, "less, beyond the limit", d -> d.add(0, 1, 9, true));
        Scene.with(low.negate(), big(1)).gives(9, LEAST, "less, down to the limit", d -> d.add(0, 1, 9, true));
        Scene.with(LEAST, big(1)).refuses(ARITHMETIC, "less, beyond the limit, below 0", d -> d.add(0, 1, 9, true));
        BigInteger half = two(1024);
        Scene.with(near(half, 1), near(half, -1)).gives(9, GREATEST, "multiply up to the limit", d -> d.multiply(0, 1, 9));
        Scene.with(half).refuses(ARITHMETIC, "multiply beyond the limit", d -> d.multiply(0, 0, 9));
        Scene.with(near(half, 1), near(half, -1).negate()).gives(9, LEAST, "multiply down to the limit", d -> d.multiply(0, 1, 9));
        Scene.with(half, half.negate()).refuses(ARITHMETIC, "multiply beyond the limit, below 0", d -> d.multiply(0, 1, 9));
        Scene.with(2).gives(9, two(2047), "power under the limit", d -> d.power(0, 2047, 9));
        Scene.with(2).refuses(ARITHMETIC, "power beyond the limit", d -> d.power(0, 2048, 9));
        Scene.with(-2).gives(9, two(2047).negate(), "power under the limit, below 0", d -> d.power(0, 2047, 9));
        Scene.with(-8).gives(9, two(2046), "power of a number below 0 under the limit", d -> d.power(0, 682, 9));
        Scene.with(-8).refuses(ARITHMETIC, "power beyond the limit, below 0", d -> d.power(0, 683, 9));
        Scene.with(1).gives(9, two(2047), "shift under the limit", d -> d.shift(0, 2047, 9));
        Scene.with(1).refuses(ARITHMETIC, "shift beyond the limit", d -> d.shift(0, 2048, 9));
        Scene.with(-1).gives(9, two(2047).negate(), "shift under the limit, below 0", d -> d.shift(0, 2047, 9));
        Scene.with(-1).refuses(ARITHMETIC, "shift beyond the limit, below 0", d -> d.shift(0, 2048, 9));
        Scene.with(GREATEST, big(-2)).gives(9, LEAST, "combine down to the limit", d -> d.combine(0, 1, 9, 2));
        Scene.with(GREATEST, big(-1)).refuses(ARITHMETIC, "combine beyond the limit", d -> d.combine(0, 1, 9, 2));
    }

    private static void readingAtTheLimit() {
        for (int base = 2; base <= 36; base++) {
            int to = base;
            String within = GREATEST.toString(base);
            String beyond = two(2048).toString(base);
            Scene.withDraft(within).givesAndEmpties(9, GREATEST, "read the greatest to " + base, d -> d.read(9, to));
            Scene.withDraft("-" + within).givesAndEmpties(9, LEAST, "read the least to " + base, d -> d.read(9, to));
            Scene.withDraft(beyond).refuses(ARITHMETIC, "read beyond the limit to " + base, d -> d.read(9, to));
            Scene.withDraft("+00" + within).givesAndEmpties(9, GREATEST, "with sign and zeros to " + base, d -> d.read(9, to));
            Scene.withDraft("-" + beyond).refuses(ARITHMETIC, "read beyond the limit, below 0, to " + base, d -> d.read(9, to));
        }
    }

    private static void quotientsTowardsZero() {
        Document.says("Terms", "The QUOTIENT of a and b, b not 0, is a divided by b, rounded towards 0; the REST is a less b times "
                + "the quotient.");
        long[][] rows = {{5, 6, 0, 5}, {6, 6, 1, 0}, {7, 6, 1, 1}, {11, 6, 1, 5}, {12, 6, 2, 0}, {-5, 6, 0, -5}, {-6, 6, -1, 0},
            {-7, 6, -1, -1}, {-11, 6, -1, -5}, {-12, 6, -2, 0}, {5, -6, 0, 5}, {6, -6, -1, 0}, {7, -6, -1, 1}, {11, -6, -1, 5},
            {-5, -6, 0, -5}, {-6, -6, 1, 0}, {-7, -6, 1, -1}, {-11, -6, 1, -5}, {0, 6, 0, 0}, {0, -6, 0, 0}, {1, 1, 1, 0},
            {-1, 1, -1, 0}, {1, -1, -1, 0}, {-1, -1, 1, 0}, {-1, 2, 0, -1}, {1, -2, 0, 1}};
        for (long[] row : rows) {
            divides(big(row[0]), big(row[1]), big(row[2]), big(row[3]));
        }
        divides(near(GREATEST, -1), GREATEST, big(0), near(GREATEST, -1));
        divides(GREATEST, GREATEST, big(1), big(0));
        divides(GREATEST, near(GREATEST, -1), big(1), big(1));
        divides(near(LEAST, 1), GREATEST, big(0), near(LEAST, 1));
        divides(LEAST, GREATEST, big(-1), big(0));
        divides(LEAST, near(GREATEST, -1), big(-1), big(-1));
        divides(GREATEST, LEAST, big(-1), big(0));
        divides(LEAST, LEAST, big(1), big(0));
        divides(LEAST, big(2), near(two(2047), -1).negate(), big(-1));
        divides(GREATEST, big(1), GREATEST, big(0));
        divides(GREATEST, big(-1), LEAST, big(0));
        divides(LEAST, big(-1), GREATEST, big(0));
    }

    private static void divides(BigInteger a, BigInteger b, BigInteger quotient, BigInteger rest) {
        Scene.with(a, b).gives(8, quotient, 9, rest, a + " by " + b, d -> d.divide(0, 1, 8, 9));
    }

    private static void moduloFromZeroToBelowM() {
        Document.says("Terms", "x MODULO m, m above 0, is the integer 0 .. m - 1 from which x differs by a multiple of m.");
        for (BigInteger m : new BigInteger[] {big(2), big(7), two(28), near(two(64), 1), near(GREATEST, -1)}) {
            BigInteger last = near(m, -1);
            BigInteger[][] rows = {{big(0), big(0)}, {big(1), big(1)}, {last, last}, {m, big(0)}, {near(m, 1), big(1)},
                {big(-1), last}, {last.negate(), big(1)}, {m.negate(), big(0)}, {near(m, 1).negate(), last}};
            for (BigInteger[] row : rows) {
                Scene.with(row[0], m).gives(9, row[1], row[0] + " modulo " + m, d -> d.modulo(0, 1, 9));
            }
        }
        for (long x = -2; x <= 2; x++) {
            Scene.with(x, 1).gives(9, 0, x + " modulo 1", d -> d.modulo(0, 1, 9));
        }
    }

    private static void bitsOfNumbersBelowZero() {
        Document.says("Terms", "BIT i of an integer a is 1 if a divided by 2 to the i, rounded to the next integer that is not greater, "
                + "is odd, else 0 (so the bits of numbers below 0 are 1 from some place on).");
        for (int k : new int[] {1, 27, 28, 29, 55, 56, 57, 63, 64, 83, 84, 85, 2046, 2047}) {
            // 2 to the k, and its neighbours, on both sides of 0: bits k - 1, k and k + 1, and far up.
            bits(near(two(k), -1), k, 1, 0, 0, 0);
            bits(two(k), k, 0, 1, 0, 0);
            bits(two(k).negate(), k, 0, 1, 1, 1);
            bits(near(two(k).negate(), -1), k, 1, 0, 1, 1);
            bits(near(two(k).negate(), 1), k, k == 1 ? 1 : 0, 1, 1, 1);
        }
        bits(GREATEST, 2047, 1, 1, 0, 0);
        bits(LEAST, 2047, 0, 0, 1, 1);
        Desk desk = new Desk();
        desk.set(0, -1);
        for (int i : new int[] {0, 1, 27, 28, 2047, 2048, 4255, 4256, Integer.MAX_VALUE}) {
            Check.answers("bit " + i + " of -1", desk.desk.bit(0, i), 1);
            Check.answers("bit " + i + " of 0", desk.desk.bit(1, i), 0);
        }
    }

    private static void bits(BigInteger a, int k, int under, int at, int above, int farUp) {
        Desk desk = new Desk();
        // Nothing of a larger number that was there before may show.
        desk.set(0, GREATEST);
        desk.set(0, a);
        Check.answers("bit " + (k - 1) + " of " + a, desk.desk.bit(0, k - 1), under);
        Check.answers("bit " + k + " of " + a, desk.desk.bit(0, k), at);
        Check.answers("bit " + (k + 1) + " of " + a, desk.desk.bit(0, k + 1), above);
        Check.answers("last bit of " + a, desk.desk.bit(0, Integer.MAX_VALUE), farUp);
    }

    private static void digitsOfEachBase() {
        Document.says("Terms", "TEXTS to a base 2 .. 36 have the digits 0 .. 9 and then the letters from a on.");
        for (int base = 2; base <= 36; base++) {
            int to = base;
            String last = DIGITS.substring(base - 1, base);
            Scene.withDraft("1" + last).givesAndEmpties(9, big(2 * base - 1), "the last digit to " + base, d -> d.read(9, to));
            Scene.with(base - 1).leavesText(last, 1, "written " + last + " to " + base, d -> d.written(0, to));
            Scene.with(base).leavesText("10", 2, "written 10 to " + base, d -> d.written(0, to));
            String next = base < 36 ? DIGITS.substring(base, base + 1) : "{";
            Scene.withDraft("1" + next).refuses(STATE, "no digit to " + base, d -> d.read(9, to));
            Scene.withDraft(next).refuses(STATE, "no digit alone to " + base, d -> d.read(9, to));
        }
    }

    private static void numberTexts() {
        Document.says("Terms", "A NUMBER TEXT is, perhaps, a sign, + or -, then one digit or more; large letters are the same as small "
                + "ones.");
        String[] numbers = {"0", "7", "+7", "-7", "+0", "-0", "00", "-007", "+007", "z", "Z", "-z", "+Z", "zZ", "Zz", "aA", "Aa"};
        for (String text : numbers) {
            BigInteger due = new BigInteger(text, 36);
            Scene.withDraft(text).givesAndEmpties(9, due, "the number text " + text, d -> d.read(9, 36));
        }
        // The characters just beside digits, letters and signs, and those that others take for them.
        String[] others = {"", "+", "-", "++7", "--7", "+-7", "-+7", "7+", "7-", "7-7", " 7", "7 ", "+ 7", "7,", "7.", "*7", ",7", ".7",
            "/", ":", "@", "[", "`", "{", "7/", "7:", "7@", "7[", "7`", "7{", "\u0000", "\u00007", "7\u0000", "7\n", "\u00ff", "7\u0080",
            "7\u00b0", "7\u00b2", "\u00b17", "\u00ad7", "7\u00e1", "_7", "7_7", "'7", "#7", "0x7+"};
        for (String text : others) {
            Scene.withDraft(text).refuses(STATE, "no number text: " + text, d -> d.read(9, 36));
        }
        for (int base : new int[] {11, 16, 36}) {
            for (String letter : new String[] {"a", "A"}) {
                Scene.withDraft(letter).givesAndEmpties(9, big(10), letter + " to " + base, d -> d.read(9, base));
                Scene.withDraft(letter).refuses(STATE, letter + " to 10", d -> d.read(9, 10));
            }
        }
    }

    private static void writtenNumbers() {
        Document.says("Terms", "A WRITTEN number has - before it if it is below 0, small letters, and no 0 before its first digit but "
                + "that of 0.");
        for (int base = 2; base <= 36; base++) {
            int to = base;
            String last = DIGITS.substring(base - 1, base);
            String[] texts = {"0", "1", "-1", last, "-" + last, "10", "-10", last + last, "-" + last + last, "100", "-100"};
            long[] values = {0, 1, -1, base - 1, 1 - base, base, -base, (long) base * base - 1, 1L - base * base, base * base, -base * base};
            for (int i = 0; i < texts.length; i++) {
                Scene.with(values[i]).leavesText(texts[i], texts[i].length(), values[i] + " to " + base,
                        d -> d.written(0, to));
            }
            // Zeros within a text stand where the row is cut into parts, and must not be lost there.
            for (int n = 2; n <= 60; n += 1) {
                BigInteger power = big(base).pow(n);
                Desk desk = new Desk();
                desk.set(0, power);
                desk.set(1, near(power, -1).negate());
                Check.same("a 1 and " + n + " zeros to " + base, desk.text(0, base), "1" + "0".repeat(n));
                Check.same("- and " + n + " last digits to " + base, desk.text(1, base), "-" + last.repeat(n));
            }
        }
    }

    private static void theFirstNamedIsThrown() {
        Document.says("Terms", "Methods throw what their comments name, the one named first when several would do; a call that throws "
                + "changes nothing.");
        String tooLarge = "z".repeat(400);
        Scene.withDraft("").refuses(ARGUMENT, "wrong register, wrong base, empty draft", d -> d.read(10, 37));
        Scene.withDraft("").refuses(ARGUMENT, "wrong register, empty draft", d -> d.read(-1, 10));
        Scene.withDraft("").refuses(ARGUMENT, "wrong base, empty draft", d -> d.read(9, 1));
        Scene.withDraft(tooLarge).refuses(ARGUMENT, "wrong base, too large", d -> d.read(9, 37));
        Scene.withDraft(tooLarge).refuses(ARGUMENT, "wrong register, too large", d -> d.read(10, 36));
        Scene.withDraft(tooLarge).refuses(STATE, "no digits to 35, too large", d -> d.read(9, 35));
        Scene.withDraft(tooLarge + "-").refuses(STATE, "a sign behind, too large before it", d -> d.read(9, 36));
        Scene.withDraft(tooLarge).refuses(ARITHMETIC, "too large", d -> d.read(9, 36));
        Scene.with(0).refuses(ARGUMENT, "power below 0 of 0", d -> d.power(0, -1, 9));
        Scene.with(GREATEST).refuses(ARGUMENT, "power below 0 of the greatest", d -> d.power(0, Integer.MIN_VALUE, 9));
        Scene.with(-1).refuses(ARGUMENT, "wrong root of a number below 0", d -> d.root(0, 0, 9));
        Scene.with(-1).refuses(ARGUMENT, "wrong root of a number below 0", d -> d.root(0, 65, 9));
        Scene.with(GREATEST, big(-1)).refuses(ARGUMENT, "wrong how, and too large", d -> d.combine(0, 1, 9, 4));
        Scene.with(LEAST, big(-2)).refuses(ARGUMENT, "wrong how, and too large", d -> d.combine(0, 1, 9, -1));
        Scene.with(0).refuses(ARGUMENT, "wrong base and register", d -> d.written(10, 37));
        Scene.with(0).refuses(ARGUMENT, "wrong place and register", d -> d.bit(-1, -1));
        Scene.with(0).refuses(ARGUMENT, "wrong what and register", d -> d.told(10, 5));
        // What the call reckons with stays as it was, even where its answer was to go there.
        Scene.with(GREATEST, big(1)).refuses(ARITHMETIC, "sum into a", d -> d.add(0, 1, 0, false));
        Scene.with(GREATEST, big(1)).refuses(ARITHMETIC, "sum into b", d -> d.add(0, 1, 1, false));
        Scene.with(GREATEST, big(2)).refuses(ARITHMETIC, "product into b", d -> d.multiply(0, 1, 1));
        Scene.with(GREATEST).refuses(ARITHMETIC, "square into itself", d -> d.multiply(0, 0, 0));
        Scene.with(GREATEST, big(0)).refuses(ARITHMETIC, "quotient by 0 into both", d -> d.divide(0, 1, 0, 1));
        Scene.with(3).refuses(ARITHMETIC, "power into itself", d -> d.power(0, 1293, 0));
        Scene.with(-4).refuses(ARITHMETIC, "root into itself", d -> d.root(0, 2, 0));
        Scene.with(6, 9).refuses(ARITHMETIC, "inverse into m", d -> d.inverse(0, 1, 1));
        Scene.with(6, -1, 9).refuses(ARITHMETIC, "power modulo into e", d -> d.powerModulo(0, 1, 2, 1));
        Scene.with(LEAST, big(-2)).refuses(ARITHMETIC, "combined into a", d -> d.combine(0, 1, 0, 0));
        Scene.with(two(2047)).refuses(ARITHMETIC, "shifted into itself", d -> d.shift(0, 1, 0));
    }

    private static void everyRegisterIsTestedFirst() {
        Document.says("Terms", "Registers that are not 0 .. 9: IllegalArgumentException, everywhere, tested first.");
        for (int no : NO_REGISTERS) {
            // Register 0 has 0, 1 has -1, 2 the greatest. Each place has a call that is sound but for the register,
            // and, where there can be one, a call in which something else is wrong, too.
            Scene.Use[] calls = {d -> d.read(no, 36), d -> d.read(no, 1), d -> d.read(no, 35), d -> d.put(no, 1),
                d -> d.add(no, 0, 9, false), d -> d.add(0, no, 9, true), d -> d.add(0, 0, no, false), d -> d.add(2, 2, no, false),
                d -> d.multiply(no, 0, 9), d -> d.multiply(0, no, 9), d -> d.multiply(0, 0, no), d -> d.multiply(2, 2, no),
                d -> d.divide(no, 1, 8, 9), d -> d.divide(no, 0, 8, 9), d -> d.divide(2, no, 8, 9), d -> d.divide(2, 1, no, 9),
                d -> d.divide(2, 0, no, 9), d -> d.divide(2, 1, 8, no), d -> d.divide(2, 0, 8, no), d -> d.divide(2, 1, no, no),
                d -> d.modulo(no, 2, 9), d -> d.modulo(no, 0, 9), d -> d.modulo(2, no, 9), d -> d.modulo(1, 2, no),
                d -> d.modulo(2, 0, no), d -> d.power(no, 2, 9), d -> d.power(no, -1, 9), d -> d.power(2, 1, no),
                d -> d.power(2, 2, no), d -> d.power(2, -1, no), d -> d.root(no, 2, 9), d -> d.root(no, 0, 9), d -> d.root(2, 2, no),
                d -> d.root(1, 2, no), d -> d.root(2, 65, no), d -> d.common(no, 0, 9), d -> d.common(0, no, 9),
                d -> d.common(0, 0, no), d -> d.inverse(no, 2, 9), d -> d.inverse(no, 0, 9), d -> d.inverse(1, no, 9),
                d -> d.inverse(1, 2, no), d -> d.inverse(0, 2, no), d -> d.inverse(1, 0, no), d -> d.powerModulo(no, 0, 2, 9),
                d -> d.powerModulo(no, 1, 0, 9), d -> d.powerModulo(1, no, 2, 9), d -> d.powerModulo(1, no, 0, 9),
                d -> d.powerModulo(1, 1, no, 9), d -> d.powerModulo(0, 1, no, 9), d -> d.powerModulo(1, 1, 2, no),
                d -> d.powerModulo(0, 1, 2, no), d -> d.powerModulo(1, 1, 0, no), d -> d.combine(no, 1, 9, 0),
                d -> d.combine(no, 1, 9, 4), d -> d.combine(2, no, 9, 0), d -> d.combine(2, no, 9, -1), d -> d.combine(2, 1, no, 0),
                d -> d.combine(2, 1, no, 2), d -> d.combine(2, 1, no, 4), d -> d.shift(no, 0, 9), d -> d.shift(no, 1, 9),
                d -> d.shift(2, 0, no), d -> d.shift(2, 1, no), d -> d.bit(no, 0), d -> d.bit(no, -1), d -> d.compare(no, 0),
                d -> d.compare(0, no), d -> d.compare(no, no), d -> d.told(no, 0), d -> d.told(no, 5), d -> d.written(no, 10),
                d -> d.written(no, 37)};
            for (int i = 0; i < calls.length; i++) {
                Scene.with(big(0), big(-1), GREATEST).refuses(ARGUMENT, "register " + no + " in call " + i, calls[i]);
            }
        }
    }

    /** Each place for a register takes the first and the last of them. */
    private static void firstAndLastRegister() {
        for (int a : new int[] {0, 9}) {
            int b = 9 - a;
            BigInteger[] values = {big(12), big(0), big(0), big(0), big(0), big(0), big(0), big(0), big(0), big(-5)};
            if (a == 9) {
                values[0] = big(-5);
                values[9] = big(12);
            }
            Scene.with(values).givesAndEmpties(a, new BigInteger("-12z", 36), "read", d -> d.read(a, 36));
            Scene.with(values).gives(a, 3, "put", d -> d.put(a, 3));
            Scene.with(values).gives(b, 7, "add", d -> d.add(a, b, b, false));
            Scene.with(values).gives(a, -60, "multiply", d -> d.multiply(b, a, a));
            Scene.with(values).gives(a, big(-2), b, big(2), "divide", d -> d.divide(a, b, a, b));
            Scene.with(values).gives(b, 7, "modulo", d -> d.modulo(b, a, b));
            Scene.with(values).gives(b, 144, "power", d -> d.power(a, 2, b));
            Scene.with(values).gives(b, 3, "root", d -> d.root(a, 2, b));
            Scene.with(values).gives(a, 1, "common", d -> d.common(b, a, a));
            Scene.with(values).gives(b, 7, "inverse", d -> d.inverse(b, a, b));
            Scene.with(values).gives(a, 0, "powerModulo", d -> d.powerModulo(a, a, a, a));
            Scene.with(values).gives(b, 8, "combine", d -> d.combine(a, b, b, 0));
            Scene.with(values).gives(b, 24, "shift", d -> d.shift(a, 1, b));
            Scene.with(values).answers(1, "bit", d -> d.bit(b, 0));
            Scene.with(values).answers(1, "compare", d -> d.compare(a, b));
            Scene.with(values).answers(-5, "told", d -> d.told(b, 0));
            Scene.with(values).leavesText("-5", 2, "written", d -> d.written(b, 10));
        }
    }

    private static void limitsThatAreNotNamedAgain() {
        Document.says("Terms", "ArithmeticException as said above is not named again.");
        // No call whose comment names no ArithmeticException, or names it for something else, can pass the limit.
        Scene.with(GREATEST, LEAST).gives(9, GREATEST, "common", d -> d.common(0, 1, 9));
        Scene.with(LEAST, big(0)).gives(9, GREATEST, "common with 0", d -> d.common(0, 1, 9));
        Scene.with(big(-1), GREATEST).gives(9, near(GREATEST, -1), "modulo", d -> d.modulo(0, 1, 9));
        Scene.with(big(-1), GREATEST).gives(9, near(GREATEST, -1), "inverse", d -> d.inverse(0, 1, 9));
        Scene.with(big(-1), big(-1), GREATEST).gives(9, near(GREATEST, -1), "power modulo", d -> d.powerModulo(0, 1, 2, 9));
        Scene.with(GREATEST).gives(9, GREATEST, "root", d -> d.root(0, 1, 9));
        Scene.with(LEAST, big(-1)).gives(8, GREATEST, 9, big(0), "divide", d -> d.divide(0, 1, 8, 9));
    }
}
