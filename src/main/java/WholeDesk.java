/**
 * Ten registers with whole numbers of up to 2048 bits, a draft from which numbers are read,
 * and a text to which they are written. ../shared/DOC.md says what each call promises.
 */
public final class WholeDesk {
    public static final int NONE = -1;

    private static final int REGISTERS = 10;
    private static final int LIMIT_BITS = 2048;
    private static final int DRAFT_ROOM = 2100;
    private static final int LEAST_BASE = 2;
    private static final int GREATEST_BASE = 36;
    private static final int GREATEST_ROOT = 64;

    private final Whole[] registers;
    private final Reckoner reckoner;
    private final Draft draft;
    private final Writing writing;

    public WholeDesk() {
        registers = new Whole[REGISTERS];
        for (int i = 0; i < REGISTERS; i++) {
            registers[i] = new Whole();
        }
        reckoner = new Reckoner();
        draft = new Draft();
        writing = new Writing();
    }

    public int write(int n, long characters) throws IllegalArgumentException {
        if (n < 1 || n > 8) {
            throw new IllegalArgumentException("a write has 1 to 8 characters");
        }
        return draft.append(n, characters) ? draft.count : NONE;
    }

    public int wipe() {
        int had = draft.count;
        draft.count = 0;
        return had;
    }

    public void read(int to, int base)
            throws IllegalArgumentException, IllegalStateException, ArithmeticException {
        testRegister(to);
        testBase(base);
        if (!draft.isNumber(base)) {
            throw new IllegalStateException("the draft is no number text to this base");
        }
        keep(draft.parsed(base), to);
        draft.count = 0;
    }

    public void put(int to, long value) throws IllegalArgumentException {
        testRegister(to);
        registers[to].become(value);
    }

    public void add(int a, int b, int to, boolean less) throws IllegalArgumentException, ArithmeticException {
        testRegister(a);
        testRegister(b);
        testRegister(to);
        keep(reckoner.sum(registers[a], registers[b], less), to);
    }

    public void multiply(int a, int b, int to) throws IllegalArgumentException, ArithmeticException {
        testRegister(a);
        testRegister(b);
        testRegister(to);
        keep(reckoner.product(registers[a], registers[b]), to);
    }

    public void divide(int a, int b, int quotient, int rest) throws IllegalArgumentException, ArithmeticException {
        testRegister(a);
        testRegister(b);
        testRegister(quotient);
        testRegister(rest);
        if (registers[b].count == 0) {
            throw new ArithmeticException("the divisor is 0");
        }
        reckoner.separate(registers[a], registers[b]);
        keep(reckoner.quotient, quotient);
        keep(reckoner.rest, rest);
    }

    public void modulo(int a, int m, int to) throws IllegalArgumentException, ArithmeticException {
        testRegister(a);
        testRegister(m);
        testRegister(to);
        testModulus(registers[m]);
        keep(reckoner.residue(registers[a], registers[m]), to);
    }

    public void power(int a, int n, int to) throws IllegalArgumentException, ArithmeticException {
        testRegister(a);
        testRegister(to);
        if (n < 0) {
            throw new IllegalArgumentException("the exponent is below 0");
        }
        // A size of b bits is 2 to the b - 1 at least: what surely grows too large is not reckoned,
        // and what passes here stays below 2 times LIMIT_BITS, for which the rows have room.
        int bits = registers[a].bits();
        if (bits > 1 && (bits - 1) * (long) n >= LIMIT_BITS) {
            throw new ArithmeticException("the power is too large");
        }
        keep(reckoner.raised(registers[a], n), to);
    }

    public void root(int a, int n, int to) throws IllegalArgumentException, ArithmeticException {
        testRegister(a);
        testRegister(to);
        if (n < 1 || n > GREATEST_ROOT) {
            throw new IllegalArgumentException("the root is not 1 to 64");
        }
        if (registers[a].below) {
            throw new ArithmeticException("the number is below 0");
        }
        keep(reckoner.rooted(registers[a], n), to);
    }

    public void common(int a, int b, int to) throws IllegalArgumentException {
        testRegister(a);
        testRegister(b);
        testRegister(to);
        registers[to].copy(reckoner.shared(registers[a], registers[b]));
    }

    public void inverse(int a, int m, int to) throws IllegalArgumentException, ArithmeticException {
        testRegister(a);
        testRegister(m);
        testRegister(to);
        testModulus(registers[m]);
        keep(reckoner.inverted(registers[a], registers[m]), to);
    }

    public void powerModulo(int a, int e, int m, int to) throws IllegalArgumentException, ArithmeticException {
        testRegister(a);
        testRegister(e);
        testRegister(m);
        testRegister(to);
        testModulus(registers[m]);
        keep(reckoner.raisedModulo(registers[a], registers[e], registers[m]), to);
    }

    public void combine(int a, int b, int to, int how) throws IllegalArgumentException, ArithmeticException {
        testRegister(a);
        testRegister(b);
        testRegister(to);
        if (how < 0 || how > 3) {
            throw new IllegalArgumentException("the way to combine is not 0 to 3");
        }
        keep(reckoner.combined(registers[a], registers[b], how), to);
    }

    public void shift(int a, int n, int to) throws IllegalArgumentException, ArithmeticException {
        testRegister(a);
        testRegister(to);
        Whole value = registers[a];
        if (n > 0 && value.count > 0 && value.bits() + (long) n > LIMIT_BITS) {
            throw new ArithmeticException("the number grows too large");
        }
        keep(n > 0 ? reckoner.shiftedUp(value, n) : reckoner.shiftedDown(value, -(long) n), to);
    }

    public int bit(int a, int i) throws IllegalArgumentException {
        testRegister(a);
        if (i < 0) {
            throw new IllegalArgumentException("the place is below 0");
        }
        return registers[a].bitAt(i);
    }

    public int compare(int a, int b) throws IllegalArgumentException {
        testRegister(a);
        testRegister(b);
        return registers[a].against(registers[b]);
    }

    public long told(int a, int what) throws IllegalArgumentException {
        testRegister(a);
        Whole value = registers[a];
        switch (what) {
            case 0:
                return value.lowest64();
            case 1:
                return value.sign();
            case 2:
                return value.length();
            case 3:
                return value.unlikeBits();
            case 4:
                return value.lowestOne();
            default:
                throw new IllegalArgumentException("there is nothing such to tell");
        }
    }

    public int written(int a, int base) throws IllegalArgumentException {
        testRegister(a);
        testBase(base);
        return writing.fill(registers[a], base);
    }

    public long text(int i) {
        return writing.eightFrom(i);
    }

    private static void testRegister(int register) {
        if (register < 0 || register >= REGISTERS) {
            throw new IllegalArgumentException("the register is not 0 to 9");
        }
    }

    private static void testBase(int base) {
        if (base < LEAST_BASE || base > GREATEST_BASE) {
            throw new IllegalArgumentException("the base is not 2 to 36");
        }
    }

    private static void testModulus(Whole m) {
        if (m.sign() <= 0) {
            throw new ArithmeticException("the modulus is not above 0");
        }
    }

    private void keep(Whole value, int to) {
        if (value.bits() > LIMIT_BITS) {
            throw new ArithmeticException("the number is too large for a register");
        }
        registers[to].copy(value);
    }

    /**
     * An integer: its size in limbs, the lowest first, and whether it is below 0.
     * Limbs have 28 bits so that the sum of 127 products of two of them is still a long:
     * a product's column needs no carry before its end.
     */
    private static final class Whole {
        static final int BITS = 28;
        static final long MASK = (1L << BITS) - 1;
        /** A product of two numbers of 74 limbs, and some limbs that a division puts above it. */
        static final int ROOM = 152;

        final long[] limbs;
        /** How many limbs are in use, never more than ROOM; what stands behind them is stale. */
        int count;
        boolean below;

        Whole() {
            limbs = new long[ROOM];
        }

        void become(long value) {
            // The least long is its own negative, but right as a size without sign: hence >>>.
            long size = value < 0 ? -value : value;
            limbs[0] = size & MASK;
            limbs[1] = (size >>> BITS) & MASK;
            limbs[2] = size >>> (2 * BITS);
            count = 3;
            below = value < 0;
            trim();
        }

        void becomePowerOfTwo(int exponent) {
            count = 0;
            below = false;
            int place = exponent / BITS;
            stretch(place + 1);
            if (place >= 0 && place < count) {
                limbs[place] = 1L << (exponent % BITS);
            }
        }

        void copy(Whole other) {
            int taken = Math.min(other.count, ROOM);
            System.arraycopy(other.limbs, 0, limbs, 0, taken);
            count = taken;
            below = other.below;
        }

        /** Has at least so many limbs in use then, new ones being 0. */
        void stretch(int wanted) {
            int end = Math.min(wanted, ROOM);
            for (int i = count; i < end; i++) {
                limbs[i] = 0;
            }
            count = Math.max(count, end);
        }

        /** Takes leading zeros out of use; 0 is never below 0. */
        void trim() {
            while (count > 0 && limbs[count - 1] == 0) {
                count--;
            }
            below = below && count > 0;
        }

        long limb(int i) {
            return i >= 0 && i < count ? limbs[i] : 0;
        }

        /** Limb i of the size times 2 to the up, up being 0 to BITS. */
        long limbShifted(int i, int up) {
            long here = i >= 0 && i < count ? limbs[i] : 0;
            long under = i >= 1 && i <= count ? limbs[i - 1] : 0;
            return (here << up | under >>> (BITS - up)) & MASK;
        }

        /** How many binary digits the size has, 0 for 0. */
        int bits() {
            return count == 0 ? 0 : (count - 1) * BITS + digitsOf(limb(count - 1));
        }

        static int digitsOf(long limb) {
            int digits = 0;
            for (long left = limb; left != 0 && digits < BITS; left >>>= 1) {
                digits++;
            }
            return digits;
        }

        int sign() {
            if (count == 0) {
                return 0;
            }
            return below ? -1 : 1;
        }

        int sizeAgainst(Whole other) {
            if (count != other.count) {
                return count < other.count ? -1 : 1;
            }
            for (int i = count - 1; i >= 0; i--) {
                if (limbs[i] != other.limbs[i]) {
                    return limbs[i] < other.limbs[i] ? -1 : 1;
                }
            }
            return 0;
        }

        int against(Whole other) {
            if (below != other.below) {
                return below ? -1 : 1;
            }
            return below ? other.sizeAgainst(this) : sizeAgainst(other);
        }

        boolean isOne() {
            return count == 1 && limbs[0] == 1 && !below;
        }

        long lowest64() {
            long low = limb(0) | limb(1) << BITS | limb(2) << (2 * BITS);
            return below ? -low : low;
        }

        /** The lowest place with a 1, the same for a number and its negative; NONE for 0. */
        int lowestOne() {
            for (int i = 0; i < count; i++) {
                if (limbs[i] != 0) {
                    return i * BITS + Long.bitCount((limbs[i] & -limbs[i]) - 1);
                }
            }
            return NONE;
        }

        /** The negative of a number has the same bits up to its lowest 1 and the others above it. */
        int bitAt(int i) {
            int own = (int) (limb(i / BITS) >>> (i % BITS)) & 1;
            return below && i > lowestOne() ? 1 - own : own;
        }

        /** The bits below 0 are those of size - 1 turned over: shorter if the size is a power of 2. */
        int length() {
            int bits = bits();
            return below && lowestOne() == bits - 1 ? bits - 1 : bits;
        }

        /** Taking 1 from the size turns its lowest 1 to 0, and the zeros under it to ones. */
        int unlikeBits() {
            int ones = 0;
            for (int i = 0; i < count; i++) {
                ones += Long.bitCount(limbs[i]);
            }
            return below ? ones - 1 + lowestOne() : ones;
        }

        /**
         * Adds factor (perhaps below 0, its size a limb at the most) times another size, at a place.
         * Answers the carry out of the limbs in use: -1 says that the sum is below 0.
         */
        long mix(Whole other, long factor, int place) {
            if (place < 0 || place > count) {
                return 0;
            }
            long[] own = limbs;
            long[] others = other.limbs;
            int both = Math.min(other.count, count - place);
            int at = place;
            long carry = 0;
            for (int i = 0; i < both; i++) {
                long sum = own[at] + factor * others[i] + carry;
                own[at] = sum & MASK;
                carry = sum >> BITS;
                at++;
            }
            for (; at < count && carry != 0; at++) {
                long sum = own[at] + carry;
                own[at] = sum & MASK;
                carry = sum >> BITS;
            }
            return carry;
        }

        /** Becomes a times b, neither of which is this. */
        void becomeProduct(Whole a, Whole b) {
            long[] left = a.limbs;
            long[] right = b.limbs;
            int columns = Math.min(a.count + b.count, ROOM);
            long carry = 0;
            for (int k = 0; k < columns; k++) {
                int end = Math.min(k + 1, a.count);
                long sum = carry;
                for (int i = Math.max(0, k - b.count + 1); i < end; i++) {
                    sum += left[i] * right[k - i];
                }
                limbs[k] = sum & MASK;
                carry = sum >>> BITS;
            }
            count = columns;
            below = a.below != b.below;
            trim();
        }

        /** Adds the size of a times b; neither is this. */
        void gather(Whole a, Whole b) {
            stretch(Math.max(count, a.count + b.count) + 1);
            for (int i = 0; i < a.count; i++) {
                mix(b, a.limbs[i], i);
            }
            trim();
        }

        /** Becomes the size of another, which is not smaller, less its own. */
        void becomeLackTo(Whole other) {
            stretch(other.count);
            long carry = 0;
            for (int i = 0; i < count; i++) {
                long part = other.limb(i) - limbs[i] + carry;
                limbs[i] = part & MASK;
                carry = part >> BITS;
            }
            below = false;
            trim();
        }

        /**
         * Leaves the rest of the own size by the divisor's (not 0), with the own sign;
         * the quotient of the sizes goes to another number. Long division, limb by limb.
         */
        void divideOut(Whole divisor, Whole quotient) {
            quotient.count = 0;
            quotient.below = false;
            int places = count - divisor.count + 1;
            if (divisor.count == 0 || places < 1) {
                return;
            }
            int up = BITS - digitsOf(divisor.limb(divisor.count - 1));
            long high = divisor.limbShifted(divisor.count - 1, up);
            long next = divisor.limbShifted(divisor.count - 2, up);
            quotient.stretch(places);
            stretch(count + 1);
            for (int place = quotient.count - 1; place >= 0; place--) {
                long digit = guess(place + divisor.count, up, high, next);
                // The guess is at most 1 too great: then the rest falls below 0 and is mended.
                if (digit != 0 && mix(divisor, -digit, place) < 0) {
                    mix(divisor, 1, place);
                    digit--;
                }
                quotient.limbs[place] = digit;
                count = Math.max(count - 1, 0);
            }
            quotient.trim();
            trim();
        }

        /**
         * A digit of a quotient from the three highest limbs of the rest and the two of the divisor,
         * all as if both were shifted up until the divisor's highest bit is the highest of its limb:
         * so the guess is the right digit or 1 more.
         */
        private long guess(int top, int up, long high, long next) {
            if (high <= 0) {
                return 0;
            }
            long part = limbShifted(top, up) << BITS | limbShifted(top - 1, up);
            long third = limbShifted(top - 2, up);
            long digit = part / high;
            long left = part - digit * high;
            for (int i = 0; i < 2 && left <= MASK; i++) {
                if (digit <= MASK && digit * next <= (left << BITS | third)) {
                    break;
                }
                digit--;
                left += high;
            }
            return digit;
        }

        /** Becomes its size times a factor, and a summand more, both of a limb at the most. */
        void scale(long factor, long summand) {
            stretch(count + 1);
            long carry = summand;
            for (int i = 0; i < count; i++) {
                long part = limbs[i] * factor + carry;
                limbs[i] = part & MASK;
                carry = part >>> BITS;
            }
            trim();
        }

        /** Divides its size by a divisor of a limb at the most, and answers the rest. */
        long shrink(long divisor) {
            if (divisor <= 0) {
                return 0;
            }
            long rest = 0;
            for (int i = count - 1; i >= 0; i--) {
                long part = rest << BITS | limbs[i];
                limbs[i] = part / divisor;
                rest = part - limbs[i] * divisor;
            }
            trim();
            return rest;
        }

        /** Turns the limbs in use into those of the negative, as if the bits went on without end. */
        void turn() {
            long carry = 1;
            for (int i = 0; i < count; i++) {
                long part = (limbs[i] ^ MASK) + carry;
                limbs[i] = part & MASK;
                carry = part >>> BITS;
            }
        }
    }

    /**
     * Reckons with numbers that it leaves as they are. The number that a method answers is one of
     * its own, which the next call uses again: so no call makes an object.
     */
    private static final class Reckoner {
        /** By the golden section, Euclid's way takes under 2960 steps for sizes of 2048 bits. */
        private static final int EUCLID_STEPS = 4096;
        /** From at most twice the root, Newton's way takes some 50 steps for the 64th root. */
        private static final int NEWTON_STEPS = 4096;
        private static final int INT_BITS = 31;
        /** Bits of an exponent that are used at once; they divide those of a limb evenly. */
        private static final int WINDOW = 4;
        private static final int WINDOW_VALUES = 16;

        final Whole quotient;
        final Whole rest;
        private Whole answer;
        private Whole spare;
        private final Whole first;
        private final Whole second;
        private final Whole third;
        private final Whole fourth;
        private final Whole[] powers;

        Reckoner() {
            quotient = new Whole();
            rest = new Whole();
            answer = new Whole();
            spare = new Whole();
            first = new Whole();
            second = new Whole();
            third = new Whole();
            fourth = new Whole();
            powers = new Whole[WINDOW_VALUES];
            for (int i = 0; i < WINDOW_VALUES; i++) {
                powers[i] = new Whole();
            }
        }

        Whole sum(Whole a, Whole b, boolean less) {
            boolean otherBelow = b.below != less;
            answer.copy(a);
            if (a.below == otherBelow) {
                answer.stretch(Math.max(a.count, b.count) + 1);
                answer.mix(b, 1, 0);
            } else if (a.sizeAgainst(b) >= 0) {
                answer.mix(b, -1, 0);
            } else {
                answer.becomeLackTo(b);
                answer.below = otherBelow;
            }
            answer.trim();
            return answer;
        }

        Whole product(Whole a, Whole b) {
            answer.becomeProduct(a, b);
            return answer;
        }

        /** Leaves the quotient and the rest of a and b in the fields of these names. */
        void separate(Whole a, Whole b) {
            rest.copy(a);
            rest.divideOut(b, quotient);
            quotient.below = a.below != b.below;
            quotient.trim();
        }

        Whole residue(Whole a, Whole m) {
            rest.copy(a);
            rest.divideOut(m, quotient);
            if (rest.below) {
                rest.becomeLackTo(m);
            }
            return rest;
        }

        Whole raised(Whole a, int n) {
            answer.become(1);
            for (int i = INT_BITS - 1; i >= 0; i--) {
                times(answer);
                if ((n >> i & 1) != 0) {
                    times(a);
                }
            }
            return answer;
        }

        private void times(Whole factor) {
            spare.becomeProduct(answer, factor);
            Whole product = spare;
            spare = answer;
            answer = product;
        }

        /** Newton's way from above: the guesses fall until they are the root, and then no more. */
        Whole rooted(Whole a, int n) {
            Whole guess = first;
            Whole better = second;
            if (n < 1 || a.count == 0) {
                guess.become(0);
                return guess;
            }
            guess.becomePowerOfTwo((a.bits() + n - 1) / n);
            for (int step = 0; step < NEWTON_STEPS; step++) {
                improve(a, n, guess, better);
                if (better.sizeAgainst(guess) >= 0) {
                    break;
                }
                Whole former = guess;
                guess = better;
                better = former;
            }
            return guess;
        }

        /** Puts ((n - 1) times guess + a divided by guess to the n - 1) divided by n into better. */
        private void improve(Whole a, int n, Whole guess, Whole better) {
            rest.copy(a);
            rest.divideOut(raised(guess, n - 1), better);
            better.stretch(Math.max(better.count, guess.count) + 1);
            better.mix(guess, n - 1, 0);
            better.shrink(n);
        }

        Whole shared(Whole a, Whole b) {
            Whole high = first;
            Whole low = second;
            high.copy(a);
            low.copy(b);
            for (int step = 0; step < EUCLID_STEPS && low.count > 0; step++) {
                high.divideOut(low, quotient);
                Whole left = high;
                high = low;
                low = left;
            }
            high.below = false;
            return high;
        }

        /**
         * Euclid's way with m and a. High is a times past, and low a times now, modulo m, with a sign
         * that changes from step to step and is not the same for both: so only sizes are kept.
         */
        Whole inverted(Whole a, Whole m) {
            Whole high = first;
            Whole low = second;
            Whole past = third;
            Whole now = fourth;
            high.copy(m);
            low.copy(residue(a, m));
            past.become(0);
            now.become(1);
            boolean pastBelow = true;
            for (int step = 0; step < EUCLID_STEPS && low.count > 0; step++) {
                high.divideOut(low, quotient);
                past.gather(quotient, now);
                Whole left = high;
                high = low;
                low = left;
                Whole older = past;
                past = now;
                now = older;
                pastBelow = !pastBelow;
            }
            if (!high.isOne()) {
                throw new ArithmeticException("there is no inverse");
            }
            if (pastBelow && past.count > 0) {
                past.becomeLackTo(m);
            }
            return past;
        }

        Whole raisedModulo(Whole a, Whole e, Whole m) {
            fillPowers(e.below ? inverted(a, m) : residue(a, m), m);
            answer.copy(powers[0]);
            for (int i = e.count - 1; i >= 0; i--) {
                for (int down = Whole.BITS - WINDOW; down >= 0; down -= WINDOW) {
                    for (int k = 0; k < WINDOW; k++) {
                        timesModulo(answer, m);
                    }
                    int digit = (int) (e.limb(i) >>> down) & (WINDOW_VALUES - 1);
                    if (digit != 0) {
                        timesModulo(powers[digit], m);
                    }
                }
            }
            return answer;
        }

        private void fillPowers(Whole base, Whole m) {
            first.copy(base);
            answer.become(1);
            answer.divideOut(m, quotient);
            powers[0].copy(answer);
            for (int i = 1; i < WINDOW_VALUES; i++) {
                timesModulo(first, m);
                powers[i].copy(answer);
            }
        }

        private void timesModulo(Whole factor, Whole m) {
            times(factor);
            answer.divideOut(m, quotient);
        }

        /** Works on limbs as if the bits went on without end, with one more limb for what is far up. */
        Whole combined(Whole a, Whole b, int how) {
            int top = Math.max(a.count, b.count);
            spread(a, top + 1, answer);
            spread(b, top + 1, spare);
            for (int i = 0; i < answer.count; i++) {
                answer.limbs[i] = joined(answer.limbs[i], spare.limb(i), how);
            }
            answer.below = answer.limb(top) != 0;
            if (answer.below) {
                answer.turn();
            }
            answer.trim();
            return answer;
        }

        private static void spread(Whole value, int limbs, Whole to) {
            to.copy(value);
            to.stretch(limbs);
            if (value.below) {
                to.turn();
            }
        }

        private static long joined(long a, long b, int how) {
            switch (how) {
                case 0:
                    return a & b;
                case 1:
                    return a | b;
                case 2:
                    return a ^ b;
                default:
                    return a & ~b;
            }
        }

        /** For an n from 0 up with which the answer stays within a register's limit, or for 0. */
        Whole shiftedUp(Whole a, int n) {
            answer.become(0);
            if (a.count == 0 || n < 0) {
                return answer;
            }
            int limbs = n / Whole.BITS;
            answer.stretch(limbs + a.count + 1);
            for (int i = limbs; i < answer.count; i++) {
                answer.limbs[i] = a.limbShifted(i - limbs, n % Whole.BITS);
            }
            answer.below = a.below;
            answer.trim();
            return answer;
        }

        /** For an n from 0 up. Below 0, a rest makes the size greater by 1. */
        Whole shiftedDown(Whole a, long n) {
            answer.become(0);
            int bits = (int) Math.min(n, LIMIT_BITS);
            int limbs = bits / Whole.BITS;
            answer.stretch(a.count - limbs);
            for (int i = 0; i < answer.count; i++) {
                answer.limbs[i] = a.limbShifted(i + limbs + 1, Whole.BITS - bits % Whole.BITS);
            }
            if (a.below && a.lowestOne() < bits) {
                answer.scale(1, 1);
            }
            answer.below = a.below;
            answer.trim();
            return answer;
        }
    }

    /** The characters from which a number is read. */
    private static final class Draft {
        /** Beyond so many limbs a number is too large, whatever digits follow. */
        private static final int ENOUGH_LIMBS = LIMIT_BITS / Whole.BITS + 1;
        private static final int NO_DIGIT = 99;

        int count;
        private final byte[] characters;
        private final Whole value;

        Draft() {
            characters = new byte[DRAFT_ROOM];
            value = new Whole();
        }

        /** Answers whether there was room; if not, nothing is added. */
        boolean append(int n, long added) {
            if (count + n > DRAFT_ROOM) {
                return false;
            }
            for (int i = 0; i < n; i++) {
                characters[count + i] = (byte) (added >>> (8 * i));
            }
            count += n;
            return true;
        }

        private boolean startsWith(char sign) {
            return count > 0 && characters[0] == sign;
        }

        private int start() {
            return startsWith('+') || startsWith('-') ? 1 : 0;
        }

        boolean isNumber(int base) {
            for (int i = start(); i < count; i++) {
                if (digitOf(characters[i]) >= base) {
                    return false;
                }
            }
            return count > start();
        }

        private static int digitOf(byte character) {
            if (character >= '0' && character <= '9') {
                return character - '0';
            }
            if (character >= 'a' && character <= 'z') {
                return character - 'a' + 10;
            }
            if (character >= 'A' && character <= 'Z') {
                return character - 'A' + 10;
            }
            return NO_DIGIT;
        }

        /** The integer of a draft that is a number; some one too large if it is too large. */
        Whole parsed(int base) {
            value.become(0);
            long part = 0;
            long weight = 1;
            for (int i = start(); i < count && value.count <= ENOUGH_LIMBS; i++) {
                part = part * base + digitOf(characters[i]);
                weight *= base;
                // Digits are joined while they fit into a limb: fewer walks over the long number.
                if (weight * base > Whole.MASK) {
                    value.scale(weight, part);
                    part = 0;
                    weight = 1;
                }
            }
            value.scale(weight, part);
            value.below = startsWith('-') && value.count > 0;
            return value;
        }
    }

    /** The text of the number that was written last. */
    private static final class Writing {
        /** As many digits as a size has to the base 2, and a sign. */
        private static final int TEXT_ROOM = LIMIT_BITS + 1;

        /** The text stands at the end of its row, as its last digit is found first. */
        private final byte[] row;
        private int start;
        private final Whole left;

        Writing() {
            row = new byte[TEXT_ROOM];
            start = TEXT_ROOM;
            left = new Whole();
        }

        /** Answers how many characters the number has. */
        int fill(Whole value, int base) {
            int digits = digitsInLimb(base);
            long weight = 1;
            for (int i = 0; i < digits; i++) {
                weight *= base;
            }
            left.copy(value);
            start = TEXT_ROOM;
            for (int i = 0; i < Whole.ROOM && (i == 0 || left.count > 0); i++) {
                long part = left.shrink(weight);
                prependDigits(part, base, left.count == 0 ? 1 : digits);
            }
            if (value.below) {
                prepend('-');
            }
            return TEXT_ROOM - start;
        }

        /** How many digits to this base a limb can hold, whichever they are. */
        private static int digitsInLimb(int base) {
            int digits = 0;
            long weight = base;
            while (weight <= Whole.MASK && digits < Whole.BITS) {
                weight *= base;
                digits++;
            }
            return digits;
        }

        /** At least so many digits, with zeros before them where the part has fewer. */
        private void prependDigits(long part, int base, int least) {
            if (base < LEAST_BASE) {
                return;
            }
            long rest = part;
            for (int i = 0; i < Whole.BITS && (i < least || rest > 0); i++) {
                int digit = (int) (rest % base);
                prepend((char) (digit < 10 ? '0' + digit : 'a' + digit - 10));
                rest /= base;
            }
        }

        private void prepend(char character) {
            if (start > 0 && start <= TEXT_ROOM) {
                start--;
                row[start] = (byte) character;
            }
        }

        long eightFrom(int i) {
            long eight = 0;
            for (int k = 7; k >= 0; k--) {
                // A long, lest a place near the greatest int turns into one below 0.
                eight = eight << 8 | characterAt((long) i + k);
            }
            return eight;
        }

        private int characterAt(long place) {
            return place >= 0 && place < TEXT_ROOM - start ? row[start + (int) place] : 0;
        }
    }
}
