/** Puts a text on the tape of an object by feed() and end(). */
final class Feeding {
    private Feeding() {
    }

    /** Calls that a text takes: those to feed it and one to end it. */
    static int calls(int[] bytes) {
        return (bytes.length + 19) / 20 + 1;
    }

    static void put(PaidWhereMade x, int[] bytes) {
        for (int i = 0; i < bytes.length; i += 20) {
            x.feed(number(bytes, i), number(bytes, i + 4), number(bytes, i + 8), number(bytes, i + 12),
                number(bytes, i + 16));
        }
        x.end(bytes.length);
    }

    static int number(int[] bytes, int from) {
        int number = 0;
        for (int i = from; i < from + 4; i++) {
            number = number << 8 | (i < bytes.length ? bytes[i] & 255 : 32);
        }
        return number;
    }

    static int[] bytes(String text) {
        int[] bytes = new int[text.length()];
        for (int i = 0; i < bytes.length; i++) {
            bytes[i] = text.charAt(i);
        }
        return bytes;
    }

    static int law(PaidWhereMade x, String text) {
        put(x, bytes(text));
        return x.text();
    }
}
