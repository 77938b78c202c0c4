import java.math.BigInteger;

/** A WholeDesk with its numbers given and taken as BigInteger, by draft and text alone. */
final class Desk {
    /** The document promises nothing after so many calls. */
    static final int CALLS = 512;

    final WholeDesk desk = new WholeDesk();
    int calls = 0;

    /** Brings a text into the draft, eight characters a call. */
    void draft(String text) {
        for (int from = 0; from < text.length(); from += 8) {
            int n = Math.min(8, text.length() - from);
            calls++;
            desk.write(n, packed(text, from));
        }
    }

    static long packed(String text, int from) {
        long characters = 0;
        for (int k = 0; k < 8; k++) {
            int place = from + k;
            if (place >= 0 && place < text.length()) {
                characters |= (text.charAt(place) & 0xFFL) << (8 * k);
            }
        }
        return characters;
    }

    void set(int register, BigInteger value) {
        if (value.bitLength() < 64) {
            calls++;
            desk.put(register, value.longValue());
            return;
        }
        calls++;
        desk.wipe();
        draft(value.toString(36));
        calls++;
        desk.read(register, 36);
    }

    void set(int register, long value) {
        set(register, BigInteger.valueOf(value));
    }

    String text(int register, int base) {
        calls++;
        int length = desk.written(register, base);
        StringBuilder text = new StringBuilder();
        for (int from = 0; from < length; from += 8) {
            calls++;
            long eight = desk.text(from);
            for (int k = 0; k < 8 && from + k < length; k++) {
                text.append((char) (eight >>> (8 * k) & 0xFF));
            }
        }
        return text.toString();
    }

    BigInteger get(int register) {
        return new BigInteger(text(register, 36), 36);
    }
}
