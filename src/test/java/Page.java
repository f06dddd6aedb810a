/** A TextOrder whose calls are counted, since nothing is promised beyond 512 of them. */
final class Page {
    static final int MOST_CALLS = 512;

    private final TextOrder order = new TextOrder();
    private int calls = 0;

    /** A page whose map 0 tells each of these codes as itself. */
    static Page telling(String codes) {
        Page page = new Page();
        for (int i = 0; i < codes.length(); i++) {
            page.map(0, codes.charAt(i), codes.charAt(i), 0);
        }
        return page;
    }

    int callsLeft() {
        return MOST_CALLS - calls;
    }

    private TextOrder called() {
        if (calls >= MOST_CALLS) {
            throw new AssertionError("a test uses an object for more than 512 calls");
        }
        calls++;
        return order;
    }

    /** The text, by one call for its length and one for each letter. */
    String text() {
        StringBuilder text = new StringBuilder();
        int length = length();
        for (int i = 0; i < length; i++) {
            text.append((char) letter(i));
        }
        return text.toString();
    }

    int sign(int code, long x, long y, long width, int size) {
        return called().sign(code, x, y, width, size);
    }

    int turn(int sign, boolean on) {
        return called().turn(sign, on);
    }

    int map(int kind, int code, int letter, int second) {
        return called().map(kind, code, letter, second);
    }

    int tag(int sign, int tag) {
        return called().tag(sign, tag);
    }

    int length() {
        return called().length();
    }

    int letter(int i) {
        return called().letter(i);
    }

    int from(int i) {
        return called().from(i);
    }

    int line(int sign) {
        return called().line(sign);
    }

    int block(int sign) {
        return called().block(sign);
    }

    int twice(int sign) {
        return called().twice(sign);
    }

    boolean space(int sign) {
        return called().space(sign);
    }

    long share(long gap, long width) {
        return called().share(gap, width);
    }

    int word(int i, int what) {
        return called().word(i, what);
    }

    int find(int c) {
        return called().find(c);
    }

    int found(int i) {
        return called().found(i);
    }

    int area(long x, long y, long x2, long y2) {
        return called().area(x, y, x2, y2);
    }
}
