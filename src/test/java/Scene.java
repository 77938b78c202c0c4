import java.math.BigInteger;

/**
 * A desk of which all is known that calls can change: its ten registers, its draft and its text.
 * One call is made on it, and then all of it is looked at, which uses it up.
 */
final class Scene {
    /** A call on the scene's desk. */
    interface Use {
        void on(WholeDesk desk);
    }

    /** A call on the scene's desk that answers a number. */
    interface Question {
        long on(WholeDesk desk);
    }

    private final Desk desk = new Desk();
    private final BigInteger[] registers = new BigInteger[10];
    private final String draft;
    private final String text;

    private Scene(String draft, BigInteger... values) {
        use();
        for (int i = 0; i < registers.length; i++) {
            registers[i] = i < values.length ? values[i] : BigInteger.valueOf(-900 - i);
            desk.set(i, registers[i]);
        }
        desk.draft(draft);
        this.draft = draft;
        this.text = desk.text(9, 7);
    }

    /** Leaves large numbers in all that the desk may use again, so that nothing rests on its being new. */
    private void use() {
        desk.calls += 13 + registers.length;
        desk.desk.put(0, -3);
        desk.desk.power(0, 1200, 1);
        desk.desk.power(0, 1201, 2);
        desk.desk.combine(1, 2, 3, 2);
        desk.desk.shift(2, 100, 4);
        desk.desk.shift(2, -1, 5);
        desk.desk.root(1, 2, 6);
        desk.desk.common(3, 2, 7);
        desk.desk.put(8, -12345);
        desk.desk.modulo(4, 1, 9);
        desk.desk.inverse(5, 1, 9);
        desk.desk.powerModulo(5, 8, 1, 9);
        desk.desk.written(4, 2);
        for (int i = 0; i < registers.length; i++) {
            desk.desk.shift(4, 0, i);
        }
    }

    /** These numbers in the registers 0, 1, 2 .., and others in those left. */
    static Scene with(BigInteger... values) {
        return new Scene("-12z", values);
    }

    static Scene with(long... values) {
        BigInteger[] all = new BigInteger[values.length];
        for (int i = 0; i < values.length; i++) {
            all[i] = BigInteger.valueOf(values[i]);
        }
        return with(all);
    }

    static Scene withDraft(String draft, BigInteger... values) {
        return new Scene(draft, values);
    }

    /** The call throws just this, and changes nothing. */
    void refuses(Class<? extends RuntimeException> due, String what, Use call) {
        desk.calls++;
        Check.throwing(due, what, () -> call.on(desk.desk));
        isAsKnown(what + " (refused)", draft, text);
    }

    /** The call puts this number into a register, and changes nothing else. */
    void gives(int register, BigInteger due, String what, Use call) {
        gives(register, due, register, due, what, call);
    }

    void gives(int register, long due, String what, Use call) {
        gives(register, BigInteger.valueOf(due), what, call);
    }

    /** The same for two registers. */
    void gives(int first, BigInteger dueFirst, int second, BigInteger dueSecond, String what, Use call) {
        givesAndLeaves(draft, first, dueFirst, second, dueSecond, what, call);
    }

    /** The call puts this number into a register, empties the draft, and changes nothing else. */
    void givesAndEmpties(int register, BigInteger due, String what, Use call) {
        givesAndLeaves("", register, due, register, due, what, call);
    }

    private void givesAndLeaves(String left, int first, BigInteger dueFirst, int second, BigInteger dueSecond, String what, Use call) {
        desk.calls++;
        Check.same(what, Check.thrownBy(() -> call.on(desk.desk)), null);
        registers[first] = dueFirst;
        registers[second] = dueSecond;
        isAsKnown(what, left, text);
    }

    /** The call answers this, and changes nothing. */
    void answers(long due, String what, Question call) {
        answersAndLeaves(due, draft, text, what, call);
    }

    /** The call answers this, leaves this draft, and changes nothing else. */
    void leavesDraft(String dueDraft, long due, String what, Question call) {
        answersAndLeaves(due, dueDraft, text, what, call);
    }

    /** The call answers this, leaves this text, and changes nothing else. */
    void leavesText(String dueText, long due, String what, Question call) {
        answersAndLeaves(due, draft, dueText, what, call);
    }

    private void answersAndLeaves(long due, String dueDraft, String dueText, String what, Question call) {
        desk.calls++;
        Check.same(what, Check.thrownBy(() -> Check.answers(what, call.on(desk.desk), due)), null);
        isAsKnown(what, dueDraft, dueText);
    }

    String text() {
        return text;
    }

    private void isAsKnown(String what, String dueDraft, String dueText) {
        textIs(what, dueText);
        for (int i = 0; i < registers.length; i++) {
            Check.same(what + ": register " + i, desk.get(i), registers[i]);
            desk.calls += 2;
            // A 0 with a sign, or with zeros before it, could not be told from 0 by its text.
            Check.answers(what + ": sign of register " + i, desk.desk.told(i, 1), registers[i].signum());
            Check.answers(what + ": length of register " + i, desk.desk.told(i, 2), registers[i].bitLength());
        }
        draftIs(what, dueDraft);
        Check.that(what + ": the test makes too many calls", desk.calls <= Desk.CALLS);
    }

    private void textIs(String what, String due) {
        for (int from = -8; from < due.length() + 8; from += 8) {
            desk.calls++;
            Check.answers(what + ": text from " + from, desk.desk.text(from), Desk.packed(due, from));
        }
    }

    /** A draft is told by its length, by the bases to which it is a number, and by that number. */
    private void draftIs(String what, String due) {
        int base = leastBase(due);
        if (base > 2) {
            desk.calls++;
            Check.throwing(IllegalStateException.class, what + ": the draft, read to " + (base - 1), () -> desk.desk.read(0, base - 1));
        }
        if (base <= 36 && due.length() < 2100 && new BigInteger(due, base).bitLength() < 2000) {
            desk.calls += 2;
            Check.answers(what + ": the draft and one character more", desk.desk.write(1, '0'), due.length() + 1);
            desk.desk.read(0, base);
            Check.same(what + ": the number of the draft with a 0 behind it", desk.get(0), new BigInteger(due + "0", base));
        } else {
            desk.calls++;
            Check.answers(what + ": the draft's length", desk.desk.wipe(), due.length());
        }
    }

    /** The least base to which a text is a number, 37 if there is none. */
    private static int leastBase(String text) {
        for (int base = 2; base <= 36; base++) {
            if (text.matches("[+-]?[0-9a-zA-Z]+") && digitsBelow(text.replaceAll("[+-]", ""), base)) {
                return base;
            }
        }
        return 37;
    }

    private static boolean digitsBelow(String digits, int base) {
        for (char c : digits.toCharArray()) {
            if (Character.digit(c, 36) >= base) {
                return false;
            }
        }
        return true;
    }
}
