import java.math.BigInteger;

/** The boundaries in the promises of a new object, of the draft and of the text: 1 to 5, 20 and 21. */
final class TextBoundaries extends Numbers {
    private static final long EIGHT_ZEROS = 0x3030303030303030L;

    private TextBoundaries() {
    }

    static void test() {
        newObject();
        bytesOfAWrite();
        fullDraft();
        wrongWrites();
        wipedDraft();
        wipeAnswers();
        read();
        readWrongBase();
        readNoNumber();
        put();
        written();
        writtenWrongBase();
        textPlaces();
    }

    private static void newObject() {
        Document.says(1, "All registers have 0; the draft and the written text are empty.");
        for (int register = 0; register <= 9; register++) {
            WholeDesk desk = new WholeDesk();
            Check.answers("bits of new register " + register, desk.told(register, 0), 0);
            Check.answers("sign of new register " + register, desk.told(register, 1), 0);
            Check.answers("lowest 1 of new register " + register, desk.told(register, 4), WholeDesk.NONE);
            Check.answers("new register " + register + " against itself", desk.compare(register, 0), 0);
            Check.answers("characters of new register " + register, desk.written(register, 2), 1);
            Check.answers("text of new register " + register, desk.text(0), '0');
        }
        Check.answers("the draft of a new object", new WholeDesk().wipe(), 0);
        Check.throwing(STATE, "reading the draft of a new object", () -> new WholeDesk().read(0, 10));
        Check.answers("the first character of a new object", new WholeDesk().write(1, '7'), 1);
        for (int i : new int[] {Integer.MIN_VALUE, -8, -7, -1, 0, 1, 8, 2048, 2049, Integer.MAX_VALUE}) {
            Check.answers("the text of a new object from " + i, new WholeDesk().text(i), 0);
        }
        WholeDesk used = new WholeDesk();
        WholeDesk other = new WholeDesk();
        used.put(0, -7);
        used.write(1, '7');
        used.written(0, 10);
        Check.answers("another object's register", other.told(0, 0), 0);
        Check.answers("another object's text", other.text(0), 0);
        Check.answers("another object's draft", other.wipe(), 0);
        Check.answers("a still newer object's register", new WholeDesk().told(0, 0), 0);
    }

    private static void bytesOfAWrite() {
        Document.says(2, "The n lowest bytes of a long, the lowest first, come behind the draft, as characters (any bytes, 0 too).");
        String text = "12345678";
        for (int n = 1; n <= 8; n++) {
            int taken = n;
            BigInteger due = new BigInteger("9" + text.substring(0, n));
            WholeDesk desk = new WholeDesk();
            Check.answers("a character before", desk.write(1, '9'), 1);
            Check.answers("behind it " + n, desk.write(taken, Desk.packed(text, 0)), 1 + n);
            desk.read(0, 10);
            Check.answers("the " + n + " lowest bytes, the lowest first", desk.told(0, 0), due.longValue());
        }
        for (int n = 1; n <= 7; n++) {
            // What stands above the n lowest bytes would make it no number, if it were taken.
            WholeDesk desk = new WholeDesk();
            desk.write(n, -1L << (8 * n) | EIGHT_ZEROS >>> (64 - 8 * n));
            desk.read(0, 2);
            Check.answers("bytes above are not taken", desk.wipe(), 0);
        }
        for (int character = 0; character <= 255; character++) {
            int one = character;
            boolean digit = Character.digit(one, 36) >= 0 && one < 128;
            Scene.withDraft("1").leavesDraft("1" + (char) one, 2, "character " + one, d -> d.write(1, one));
            WholeDesk desk = new WholeDesk();
            desk.write(1, one);
            Check.same("character " + one + " read to 36", Check.thrownBy(() -> desk.read(0, 36)), digit ? null : STATE);
            Check.answers("character " + one + " counts", desk.wipe(), digit ? 0 : 1);
        }
        Check.answers("eight zero bytes", new WholeDesk().write(8, 0), 8);
        Check.answers("eight bytes 255", new WholeDesk().write(8, -1), 8);
        Check.answers("the least long", new WholeDesk().write(8, Long.MIN_VALUE), 8);
    }

    /** A desk with so many zeros in its draft, in as few calls as can be. */
    private static WholeDesk filled(int characters) {
        WholeDesk desk = new WholeDesk();
        for (int has = 0; has < characters; ) {
            int n = Math.min(8, characters - has);
            has += n;
            Check.answers("write to " + has, desk.write(n, EIGHT_ZEROS), has);
        }
        return desk;
    }

    private static void fullDraft() {
        Document.says(2, "Answers how many it has then; NONE, adding none, when there would be more than 2100.");
        for (int n = 1; n <= 8; n++) {
            WholeDesk fits = filled(2100 - n);
            Check.answers("the last " + n, fits.write(n, EIGHT_ZEROS), 2100);
            for (int more = 1; more <= 8; more++) {
                Check.answers("full, and " + more, fits.write(more, EIGHT_ZEROS), WholeDesk.NONE);
            }
            Check.answers("full", fits.wipe(), 2100);
            WholeDesk over = filled(2101 - n);
            Check.answers("one too many of " + n, over.write(n, EIGHT_ZEROS), WholeDesk.NONE);
            Check.answers("none was added of " + n, over.wipe(), 2101 - n);
            if (n > 1) {
                WholeDesk fewer = filled(2101 - n);
                Check.answers("too many", fewer.write(n, -1), WholeDesk.NONE);
                Check.answers("one fewer has room still", fewer.write(n - 1, EIGHT_ZEROS), 2100);
                fewer.read(0, 2);
                Check.answers("nothing of what was too much is in it", fewer.wipe(), 0);
            }
        }
        WholeDesk full = filled(2092);
        full.write(8, Desk.packed("00000001", 0));
        full.read(3, 36);
        Check.answers("a full draft is read whole", full.told(3, 0), 1);
        Check.answers("there is room again", full.write(8, EIGHT_ZEROS), 8);
    }

    private static void wrongWrites() {
        Document.says(2, "IllegalArgumentException: n is not 1 .. 8.");
        for (int n : new int[] {0, 9, -1, Integer.MIN_VALUE, Integer.MAX_VALUE}) {
            Scene.withDraft("12").refuses(ARGUMENT, "write " + n, d -> d.write(n, EIGHT_ZEROS));
            Scene.withDraft("").refuses(ARGUMENT, "write " + n + " first", d -> d.write(n, EIGHT_ZEROS));
            WholeDesk full = filled(2100);
            Check.throwing(ARGUMENT, "write " + n + " to a full draft", () -> full.write(n, EIGHT_ZEROS));
            Check.answers("the full draft has what it had", full.wipe(), 2100);
        }
        Scene.withDraft("12").leavesDraft("120", 3, "write 1", d -> d.write(1, EIGHT_ZEROS));
        Scene.withDraft("12").leavesDraft("1200000000", 10, "write 8", d -> d.write(8, EIGHT_ZEROS));
    }

    private static void wipedDraft() {
        Document.says(3, "The draft is empty then.");
        for (String draft : new String[] {"", "7", "no number", "\u0000"}) {
            Scene.withDraft(draft).leavesDraft("", draft.length(), "wipe " + draft, WholeDesk::wipe);
        }
        WholeDesk desk = filled(2100);
        desk.wipe();
        Check.throwing(STATE, "read what was wiped", () -> desk.read(0, 10));
        Check.answers("write after wipe", desk.write(1, '7'), 1);
        desk.read(0, 10);
        Check.answers("only what came after the wipe", desk.told(0, 0), 7);
    }

    private static void wipeAnswers() {
        Document.says(3, "Answers how many characters it had.");
        for (int characters : new int[] {0, 1, 8, 9, 2099, 2100}) {
            WholeDesk desk = filled(characters);
            Check.answers("wipe " + characters, desk.wipe(), characters);
            Check.answers("wipe again", desk.wipe(), 0);
        }
        WholeDesk none = filled(2100);
        none.write(1, 0);
        Check.answers("wipe after NONE", none.wipe(), 2100);
        WholeDesk read = filled(2100);
        read.read(0, 2);
        Check.answers("wipe after read", read.wipe(), 0);
        Check.answers("zero bytes are characters", zeroBytes().wipe(), 8);
    }

    private static WholeDesk zeroBytes() {
        WholeDesk desk = new WholeDesk();
        desk.write(8, 0);
        return desk;
    }

    private static void read() {
        Document.says(4, "A register gets the integer of the draft, to a base, and the draft is empty.");
        Scene.withDraft("0").givesAndEmpties(0, big(0), "0", d -> d.read(0, 2));
        Scene.withDraft("-0").givesAndEmpties(0, big(0), "-0", d -> d.read(0, 2));
        Scene.withDraft("-1").givesAndEmpties(9, big(-1), "-1", d -> d.read(9, 2));
        Scene.withDraft("+zZ").givesAndEmpties(9, big(1295), "+zZ", d -> d.read(9, 36));
        Scene.withDraft("10").givesAndEmpties(0, big(2), "10 to 2", d -> d.read(0, 2));
        Scene.withDraft("10").givesAndEmpties(0, big(36), "10 to 36", d -> d.read(0, 36));
        for (String sign : new String[] {"", "+", "-"}) {
            BigInteger due = big(sign.equals("-") ? -1 : 1);
            int zeros = 2099 - sign.length();
            Scene.withDraft(sign + "0".repeat(zeros) + "1").givesAndEmpties(9, due, "the longest draft", d -> d.read(9, 36));
            Scene.withDraft(sign + "0".repeat(zeros + 1)).givesAndEmpties(9, big(0), "the longest 0", d -> d.read(9, 2));
        }
        Scene.withDraft("z".repeat(2100)).refuses(ARITHMETIC, "the longest draft, too large", d -> d.read(9, 36));
        Scene.withDraft("1" + "0".repeat(2047)).givesAndEmpties(9, two(2047), "2048 characters", d -> d.read(9, 2));
        Scene.withDraft("1" + "0".repeat(2048)).refuses(ARITHMETIC, "2049 characters", d -> d.read(9, 2));
        for (int digits = 1; digits <= 70; digits++) {
            for (int base : new int[] {2, 3, 10, 16, 35, 36}) {
                Desk desk = new Desk();
                desk.draft(DIGITS.substring(base - 1, base).repeat(digits));
                desk.desk.read(0, base);
                Check.same(digits + " last digits to " + base, desk.get(0), near(big(base).pow(digits), -1));
            }
        }
    }

    private static void readWrongBase() {
        Document.says(4, "IllegalArgumentException, too: base is not 2 .. 36.");
        for (int base : NO_BASES) {
            Scene.withDraft("1").refuses(ARGUMENT, "read to " + base, d -> d.read(9, base));
            Scene.withDraft("0").refuses(ARGUMENT, "read 0 to " + base, d -> d.read(9, base));
        }
        Scene.withDraft("1").givesAndEmpties(9, big(1), "read to 2", d -> d.read(9, 2));
        Scene.withDraft("1").givesAndEmpties(9, big(1), "read to 36", d -> d.read(9, 36));
    }

    private static void readNoNumber() {
        Document.says(4, "IllegalStateException: the draft is no number text to this base.");
        Scene.withDraft("").refuses(STATE, "empty", d -> d.read(9, 10));
        Scene.withDraft("-").refuses(STATE, "-", d -> d.read(9, 10));
        Scene.withDraft("+").refuses(STATE, "+", d -> d.read(9, 10));
        Scene.withDraft("12").refuses(STATE, "12 to 2", d -> d.read(9, 2));
        Scene.withDraft("12").givesAndEmpties(9, big(5), "12 to 3", d -> d.read(9, 3));
        Scene.withDraft("0".repeat(2099) + "2").refuses(STATE, "the last of 2100 is no digit", d -> d.read(9, 2));
        Scene.withDraft("2" + "0".repeat(2099)).refuses(STATE, "the first of 2100 is no digit", d -> d.read(9, 2));
        Scene.withDraft("0".repeat(2099) + "-").refuses(STATE, "the last of 2100 is a sign", d -> d.read(9, 36));
        WholeDesk desk = new WholeDesk();
        desk.write(1, '-');
        Check.throwing(STATE, "a sign alone", () -> desk.read(0, 10));
        Check.answers("goes on behind it", desk.write(1, '8'), 2);
        Check.throwing(STATE, "8 to 8", () -> desk.read(0, 8));
        desk.read(0, 9);
        Check.answers("what was refused stays to be read", desk.told(0, 0), -8);
    }

    private static void put() {
        Document.says(5, "A register gets an integer.");
        long[] values = {0, 1, -1, Integer.MAX_VALUE, Integer.MIN_VALUE, (1L << 28) - 1, 1L << 28, -(1L << 28), (1L << 56) - 1,
            1L << 56, -(1L << 56), Long.MAX_VALUE - 1, Long.MAX_VALUE, Long.MIN_VALUE + 1, Long.MIN_VALUE};
        for (long value : values) {
            Scene.with(GREATEST).gives(0, value, "put " + value + " over the greatest", d -> d.put(0, value));
            Scene.with(GREATEST).gives(9, value, "put " + value, d -> d.put(9, value));
        }
        for (int no : NO_REGISTERS) {
            Scene.with(1).refuses(ARGUMENT, "put into " + no, d -> d.put(no, 1));
        }
    }

    private static void written() {
        Document.says(20, "a is written to a base: how many characters that are.");
        Scene.with(0).leavesText("0", 1, "0 to 2", d -> d.written(0, 2));
        Scene.with(0).leavesText("0", 1, "0 to 36", d -> d.written(0, 36));
        for (int base = 2; base <= 36; base++) {
            int to = base;
            String greatest = GREATEST.toString(base);
            Scene.with(GREATEST).leavesText(greatest, greatest.length(), "greatest to " + base, d -> d.written(0, to));
            Scene.with(LEAST).leavesText("-" + greatest, greatest.length() + 1, "least to " + base, d -> d.written(0, to));
        }
        Desk desk = new Desk();
        desk.set(0, LEAST);
        Check.answers("the longest text", desk.desk.written(0, 2), 2049);
        Check.answers("its end", desk.desk.text(2041), Desk.packed("11111111", 0));
        Check.answers("the shortest text after it", desk.desk.written(1, 2), 1);
        Check.answers("nothing is left of the longest", desk.desk.text(-7), (long) '0' << 56);
        Check.answers("nothing is left behind", desk.desk.text(1), 0);
    }

    private static void writtenWrongBase() {
        Document.says(20, "IllegalArgumentException, too: base is not 2 .. 36.");
        for (int base : NO_BASES) {
            Scene.with(GREATEST).refuses(ARGUMENT, "written to " + base, d -> d.written(0, base));
            Scene.with(0).refuses(ARGUMENT, "0 written to " + base, d -> d.written(0, base));
            WholeDesk desk = new WholeDesk();
            Check.throwing(ARGUMENT, "written first, to " + base, () -> desk.written(0, base));
            Check.answers("the text is empty still", desk.text(0), 0);
        }
        Scene.with(1).leavesText("1", 1, "written to 2", d -> d.written(0, 2));
        Scene.with(1).leavesText("1", 1, "written to 36", d -> d.written(0, 36));
    }

    private static void textPlaces() {
        Document.says(21, "The eight characters of what was written last from place i on as bytes of a long, the first one as the "
                + "lowest; 0 for those that it has not (places below 0, too).");
        BigInteger[] values = {big(7), big(-7), big(1234567), big(12345678), big(123456789), big(-1234567), big(-12345678), two(600)};
        for (BigInteger value : values) {
            String text = value.toString();
            Desk desk = new Desk();
            desk.set(0, value);
            desk.desk.written(0, 10);
            for (int i = -9; i <= text.length() + 1; i++) {
                Check.answers(text + " from " + i, desk.desk.text(i), Desk.packed(text, i));
            }
        }
        WholeDesk one = new WholeDesk();
        one.written(0, 10);
        Check.answers("the only character as the lowest byte", one.text(0), 0x30L);
        Check.answers("the only character as the highest byte", one.text(-7), 0x3000000000000000L);
        Check.answers("just before it", one.text(-8), 0);
        Check.answers("just behind it", one.text(1), 0);
        Desk longest = new Desk();
        longest.set(0, near(LEAST, 1));
        longest.desk.written(0, 2);
        Check.answers("the first of the longest", longest.desk.text(-7), (long) '-' << 56);
        Check.answers("the last of the longest", longest.desk.text(2048), '0');
        Check.answers("the last two of the longest", longest.desk.text(2047), Desk.packed("10", 0));
        Check.answers("behind the longest", longest.desk.text(2049), 0);
        for (int i : new int[] {Integer.MIN_VALUE, Integer.MIN_VALUE + 7, -2049, -8, 2050, 2100, Integer.MAX_VALUE - 8,
            Integer.MAX_VALUE - 7, Integer.MAX_VALUE}) {
            Check.answers("the longest from " + i, longest.desk.text(i), 0);
        }
        Scene scene = Scene.with(5);
        scene.answers(Desk.packed(scene.text(), 0), "text changes nothing", d -> d.text(0));
        WholeDesk last = new WholeDesk();
        last.put(0, 12);
        last.written(0, 10);
        last.put(0, 34);
        Check.answers("the text stays when its register changes", last.text(0), Desk.packed("12", 0));
        last.written(0, 10);
        Check.answers("what was written last", last.text(0), Desk.packed("34", 0));
    }
}
