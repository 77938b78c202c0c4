import java.math.BigInteger;
import java.util.Random;

/** Runs of drawn calls, every answer and every number compared with those of the mirror. */
public final class MirrorTest {
    private static final int CALL_KINDS = 20;

    private final Random random;
    private final Desk desk = new Desk();
    private final Mirror mirror = new Mirror();
    private final StringBuilder story = new StringBuilder();
    private final boolean wild;

    private MirrorTest(long seed, boolean wild) {
        random = new Random(seed);
        this.wild = wild;
        story.append("seed ").append(seed).append(": ");
    }

    public static void main(String[] arguments) {
        int runs = arguments.length > 0 ? Integer.parseInt(arguments[0]) : 4000;
        for (int seed = 0; seed < runs; seed++) {
            new MirrorTest(seed, false).reckon();
            new MirrorTest(seed, true).roam();
        }
        Check.end("MirrorTest");
    }

    /** Large numbers, sound arguments most times: what comes out is compared whole. */
    private void reckon() {
        for (int register = 0; register < 3; register++) {
            load(register);
        }
        while (desk.calls < Desk.CALLS - 120) {
            int to = random.nextInt(10);
            call(3 + random.nextInt(CALL_KINDS - 3), to);
            story.append("register ").append(to).append("; ");
            Check.same(story, desk.get(to), mirror.registers[to]);
            mirror.written(to, 36);
            if (mirror.registers[to].signum() == 0) {
                story.append("load ");
                load(to);
            }
        }
    }

    /** Any calls, with wrong arguments among them. */
    private void roam() {
        while (desk.calls < Desk.CALLS - 60) {
            call(random.nextInt(CALL_KINDS), register());
        }
        int left = random.nextInt(10);
        Check.same(story + "register " + left, desk.get(left), mirror.registers[left]);
    }

    private void load(int register) {
        BigInteger value = BigInteger.ZERO;
        switch (random.nextInt(5)) {
            case 0 -> value = BigInteger.valueOf(smallLong());
            case 1 -> value = new BigInteger(random.nextInt(2049), random);
            case 2 -> value = BigInteger.ONE.shiftLeft(random.nextInt(2048)).add(BigInteger.valueOf(random.nextInt(5) - 2));
            case 3 -> value = patched(random.nextInt(2049));
            default -> value = new BigInteger(random.nextInt(300), random);
        }
        if (random.nextInt(3) == 0) {
            value = value.negate();
        }
        desk.set(register, value);
        mirror.registers[register] = value;
        mirror.draft.setLength(0);
    }

    /** Stretches of ones and of zeros: on these, long division guesses wrong most. */
    private BigInteger patched(int bits) {
        BigInteger value = BigInteger.ZERO;
        int i = 0;
        while (i < bits) {
            int stretch = random.nextInt(3) == 0 ? 1 + random.nextInt(100) : 28;
            boolean ones = random.nextBoolean();
            for (int k = 0; k < stretch && i < bits; k++, i++) {
                if (ones) {
                    value = value.setBit(i);
                }
            }
            if (random.nextInt(4) == 0) {
                value = value.xor(BigInteger.valueOf(random.nextInt(4)).shiftLeft(Math.max(0, i - 28)));
                value = value.mod(BigInteger.ONE.shiftLeft(2048));
            }
        }
        return value;
    }

    private long smallLong() {
        return switch (random.nextInt(6)) {
            case 0 -> Long.MIN_VALUE + random.nextInt(2);
            case 1 -> Long.MAX_VALUE - random.nextInt(2);
            case 2 -> random.nextLong();
            case 3 -> 1L << random.nextInt(64);
            default -> random.nextInt(40) - 15;
        };
    }

    private int register() {
        if (wild && random.nextInt(60) == 0) {
            return pick(-1, 10, Integer.MIN_VALUE, Integer.MAX_VALUE);
        }
        return random.nextInt(wild ? 10 : 4);
    }

    private int pick(int... choices) {
        return choices[random.nextInt(choices.length)];
    }

    private int amount(int from, int to) {
        if (wild && random.nextInt(12) == 0) {
            return pick(from - 1, to + 1, Integer.MIN_VALUE, Integer.MAX_VALUE, -1, 0);
        }
        return from + random.nextInt(to - from + 1);
    }

    private int exponent() {
        return random.nextInt(4) == 0 ? amount(0, 2049) : amount(0, 12);
    }

    private void call(int kind, int to) {
        int a = register();
        int b = register();
        int c = register();
        switch (kind) {
            case 0 -> write();
            case 1 -> number("wipe()", () -> desk.desk.wipe(), mirror::wipe);
            case 2 -> read(to, amount(2, 36));
            case 3 -> put(to, smallLong());
            case 4 -> add(a, b, to, random.nextBoolean());
            case 5 -> done("multiply " + a + " " + b + " " + to, () -> desk.desk.multiply(a, b, to), () -> mirror.multiply(a, b, to));
            case 6 -> done("divide " + a + " " + b + " " + c + " " + to, () -> desk.desk.divide(a, b, c, to), () -> mirror.divide(a, b, c, to));
            case 7 -> done("divide " + a + " " + b + " " + to + " " + c, () -> desk.desk.divide(a, b, to, c), () -> mirror.divide(a, b, to, c));
            case 8 -> done("modulo " + a + " " + b + " " + to, () -> desk.desk.modulo(a, b, to), () -> mirror.modulo(a, b, to));
            case 9 -> power(a, exponent(), to);
            case 10 -> root(a, amount(1, 64), to);
            case 11 -> done("common " + a + " " + b + " " + to, () -> desk.desk.common(a, b, to), () -> mirror.common(a, b, to));
            case 12 -> done("inverse " + a + " " + b + " " + to, () -> desk.desk.inverse(a, b, to), () -> mirror.inverse(a, b, to));
            case 13 -> powerModulo(a, b, c, to);
            case 14 -> combine(a, b, to, amount(0, 3));
            case 15 -> shift(a, random.nextInt(3) == 0 ? amount(-2049, 2049) : amount(-90, 90), to);
            case 16 -> bit(a, random.nextInt(8) == 0 ? Integer.MAX_VALUE : amount(0, 2100));
            case 17 -> number("compare " + a + " " + b, () -> desk.desk.compare(a, b), () -> mirror.compare(a, b));
            case 18 -> told(a, amount(0, 4));
            default -> written(a, amount(2, 36));
        }
    }

    private void write() {
        int n = amount(1, 8);
        long characters = 0;
        for (int k = 0; k < 8; k++) {
            int c = random.nextInt(300) == 0 ? random.nextInt(256) : "0123456789azAZ1+-".charAt(random.nextInt(random.nextInt(30) == 0 ? 17 : 3));
            characters = characters << 8 | c;
        }
        long all = characters;
        number("write " + n + " " + all, () -> desk.desk.write(n, all), () -> mirror.write(n, all));
    }

    private void read(int to, int base) {
        done("read " + to + " " + base, () -> desk.desk.read(to, base), () -> mirror.read(to, base));
    }

    private void put(int to, long value) {
        done("put " + to + " " + value, () -> desk.desk.put(to, value), () -> mirror.put(to, value));
    }

    private void add(int a, int b, int to, boolean less) {
        done("add " + a + " " + b + " " + to + " " + less, () -> desk.desk.add(a, b, to, less), () -> mirror.add(a, b, to, less));
    }

    private void power(int a, int n, int to) {
        done("power " + a + " " + n + " " + to, () -> desk.desk.power(a, n, to), () -> mirror.power(a, n, to));
    }

    private void root(int a, int n, int to) {
        done("root " + a + " " + n + " " + to, () -> desk.desk.root(a, n, to), () -> mirror.root(a, n, to));
    }

    private void powerModulo(int a, int e, int m, int to) {
        done("powerModulo " + a + " " + e + " " + m + " " + to, () -> desk.desk.powerModulo(a, e, m, to), () -> mirror.powerModulo(a, e, m, to));
    }

    private void combine(int a, int b, int to, int how) {
        done("combine " + a + " " + b + " " + to + " " + how, () -> desk.desk.combine(a, b, to, how), () -> mirror.combine(a, b, to, how));
    }

    private void shift(int a, int n, int to) {
        done("shift " + a + " " + n + " " + to, () -> desk.desk.shift(a, n, to), () -> mirror.shift(a, n, to));
    }

    private void bit(int a, int i) {
        number("bit " + a + " " + i, () -> desk.desk.bit(a, i), () -> mirror.bit(a, i));
    }

    private void told(int a, int what) {
        number("told " + a + " " + what, () -> desk.desk.told(a, what), () -> mirror.told(a, what));
    }

    private void written(int a, int base) {
        number("written " + a + " " + base, () -> desk.desk.written(a, base), () -> mirror.written(a, base));
        int length = mirror.written.length();
        for (int from : new int[] {amount(-9, length + 1), length - random.nextInt(10), random.nextInt(length + 1)}) {
            number("text " + from, () -> desk.desk.text(from), () -> mirror.text(from));
        }
    }

    private interface Answer {
        long get();
    }

    private void done(String what, Check.Call ours, Check.Call due) {
        desk.calls++;
        story.append(what).append("; ");
        Check.same(story, Check.thrownBy(ours), Check.thrownBy(due));
    }

    private void number(String what, Answer ours, Answer due) {
        long[] answers = {0, 0};
        done(what, () -> answers[0] = ours.get(), () -> answers[1] = due.get());
        Check.answers(story, answers[0], answers[1]);
    }
}
