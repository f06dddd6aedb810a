import java.util.NoSuchElementException;

/** Each promise by itself, with the answers worked out by hand from the document. */
public final class PromiseTest {
    private static final Due DUE = new Due();
    private static final Class<IllegalArgumentException> ILLEGAL = IllegalArgumentException.class;
    private static final Class<UnsupportedOperationException> FULL = UnsupportedOperationException.class;
    private static final Class<NoSuchElementException> NO_SIGN = NoSuchElementException.class;
    private static final Class<IndexOutOfBoundsException> OUTSIDE = IndexOutOfBoundsException.class;

    public static void main(String[] args) {
        newObject();
        sign();
        signLimits();
        turn();
        map();
        mapRank();
        tag();
        tagsInOneSegment();
        lengthLetterFrom();
        hyphens();
        line();
        turnedLines();
        segmentsAndSpaces();
        blocksAcross();
        blocksDown();
        blocksWithinBlocks();
        blocksByTheWidestGap();
        blocksByAllSignsOfSegments();
        blocksByLines();
        manyBlocks();
        twice();
        share();
        word();
        find();
        found();
        area();
        thrownChangesNothing();
        DUE.end();
    }

    private static void newObject() {
        Page page = new Page();
        DUE.is("new: length", page.length(), 0);
        DUE.is("new: words", page.word(-1, 0), 0);
        DUE.is("new: find", page.find(0), 0);
        DUE.is("new: area", page.area(-1000000, -1000000, 1000000, 1000000), 0);
        DUE.fails("new: letter", OUTSIDE, () -> page.letter(0));
        DUE.fails("new: from", OUTSIDE, () -> page.from(0));
        DUE.fails("new: found", OUTSIDE, () -> page.found(0));
        DUE.fails("new: word", OUTSIDE, () -> page.word(0, 0));
        DUE.fails("new: line", NO_SIGN, () -> page.line(0));
        DUE.is("new: no map tells", page.map(3, 255, 0, 0), 0);
    }

    private static void sign() {
        Page page = new Page();
        DUE.is("sign: first", page.sign(0, -1000000, -1000000, 0, 1), 0);
        DUE.is("sign: second", page.sign(255, 1000000, 1000000, 1000000, 1000), 1);
        DUE.fails("sign: code -1", ILLEGAL, () -> page.sign(-1, 0, 0, 0, 1));
        DUE.fails("sign: code 256", ILLEGAL, () -> page.sign(256, 0, 0, 0, 1));
        DUE.fails("sign: x", ILLEGAL, () -> page.sign(0, -1000001, 0, 0, 1));
        DUE.fails("sign: x over", ILLEGAL, () -> page.sign(0, 1000001, 0, 0, 1));
        DUE.fails("sign: x as an int would fit", ILLEGAL, () -> page.sign(0, 1L << 32, 0, 0, 1));
        DUE.fails("sign: y", ILLEGAL, () -> page.sign(0, 0, -1000001, 0, 1));
        DUE.fails("sign: y over", ILLEGAL, () -> page.sign(0, 0, Long.MAX_VALUE, 0, 1));
        DUE.fails("sign: width", ILLEGAL, () -> page.sign(0, 0, 0, -1, 1));
        DUE.fails("sign: width over", ILLEGAL, () -> page.sign(0, 0, 0, 1000001, 1));
        DUE.fails("sign: size 0", ILLEGAL, () -> page.sign(0, 0, 0, 0, 0));
        DUE.fails("sign: size over", ILLEGAL, () -> page.sign(0, 0, 0, 0, 1001));
        DUE.is("sign: refused ones have no number", page.sign(0, 0, 0, 0, 1), 2);
    }

    private static void signLimits() {
        Page page = new Page();
        for (int i = 0; i < 200; i++) {
            DUE.is("sign: number", page.sign(i, i * 10, 0, 10, 10), i);
        }
        DUE.fails("sign: 201st", FULL, () -> page.sign(0, 0, 0, 0, 1));
        DUE.fails("sign: 201st, and wrong", ILLEGAL, () -> page.sign(0, 0, 0, 0, 0));
        DUE.is("sign: 200 letters", page.length(), 200);
        for (int i = 0; i < 200; i++) {
            page.map(0, i, 7, 8);
        }
        DUE.is("sign: 400 letters", page.length(), 400);
        DUE.is("sign: the last letter", page.from(399), 199);
    }

    private static void turn() {
        Page page = Page.telling("ab");
        page.sign('a', 0, 0, 5, 10);
        page.sign('b', 5, 0, 5, 10);
        DUE.reads("turn: none", page, "ab");
        DUE.is("turn: on", page.turn(0, true), 0);
        DUE.reads("turn: turned ones come later", page, "b\na");
        DUE.is("turn: on again", page.turn(0, true), 1);
        DUE.is("turn: off", page.turn(0, false), 1);
        DUE.is("turn: off again", page.turn(0, false), 0);
        DUE.reads("turn: back", page, "ab");
        DUE.fails("turn: -1", NO_SIGN, () -> page.turn(-1, true));
        DUE.fails("turn: behind", NO_SIGN, () -> page.turn(2, true));
    }

    private static void map() {
        Page page = new Page();
        DUE.is("map: one", page.map(0, 0, 1, 0), 0);
        DUE.is("map: two", page.map(0, 0, 65535, 65535), 1);
        DUE.is("map: none", page.map(0, 0, 0, 0), 2);
        DUE.is("map: none again", page.map(0, 0, 0, 0), 0);
        DUE.is("map: the last", page.map(3, 255, 5, 6), 0);
        DUE.is("map: each its own", page.map(2, 255, 5, 0), 0);
        DUE.is("map: the last told", page.map(3, 255, 0, 0), 2);
        DUE.fails("map: kind -1", OUTSIDE, () -> page.map(-1, 0, 1, 0));
        DUE.fails("map: kind 4", OUTSIDE, () -> page.map(4, 0, 1, 0));
        DUE.fails("map: code -1", OUTSIDE, () -> page.map(1, -1, 1, 0));
        DUE.fails("map: code 256", OUTSIDE, () -> page.map(0, 256, 1, 0));
        DUE.fails("map: both wrong", OUTSIDE, () -> page.map(4, 0, -1, -1));
        DUE.fails("map: code and letter wrong", OUTSIDE, () -> page.map(0, 256, 0, 1));
        DUE.fails("map: letter -1", ILLEGAL, () -> page.map(0, 0, -1, 0));
        DUE.fails("map: letter over", ILLEGAL, () -> page.map(0, 0, 65536, 0));
        DUE.fails("map: second -1", ILLEGAL, () -> page.map(0, 0, 1, -1));
        DUE.fails("map: second over", ILLEGAL, () -> page.map(0, 0, 1, 65536));
        DUE.fails("map: second alone", ILLEGAL, () -> page.map(0, 0, 0, 1));
    }

    private static void mapRank() {
        Page page = new Page();
        page.sign(9, 0, 0, 5, 10);
        DUE.is("rank: unknown", page.letter(0), 65533);
        page.map(3, 9, 'd', 'D');
        DUE.reads("rank: map 3", page, "dD");
        page.map(1, 9, 'b', 0);
        DUE.reads("rank: map 1 before 3", page, "b");
        page.map(2, 9, 'c', 0);
        DUE.reads("rank: map 2 behind 1", page, "b");
        page.map(0, 9, 'a', 'A');
        DUE.reads("rank: map 0", page, "aA");
        page.map(0, 9, 0, 0);
        page.map(1, 9, 0, 0);
        DUE.reads("rank: map 2 left", page, "c");
        page.map(2, 9, 0, 0);
        page.map(3, 9, 0, 0);
        DUE.is("rank: none left", page.letter(0), 65533);
    }

    private static void tag() {
        Page page = Page.telling("abcd");
        for (int i = 0; i < 4; i++) {
            page.sign("abcd".charAt(i), 0, -i * 12, 5, 10);
        }
        DUE.reads("tag: none", page, "a b c d");
        DUE.is("tag: had none", page.tag(3, 100), -1);
        DUE.reads("tag: d first", page, "d\na b c");
        DUE.is("tag: c", page.tag(2, 0), -1);
        DUE.reads("tag: c before d", page, "c\nd\na b");
        DUE.is("tag: had 100", page.tag(3, 0), 100);
        DUE.reads("tag: one tag, in this order", page, "c d\na b");
        DUE.is("tag: gone", page.tag(2, -1), 0);
        DUE.reads("tag: only d", page, "d\na b c");
        DUE.is("tag: no effect on lines", page.line(3), 3);
        DUE.is("tag: no effect on blocks", page.block(3), 0);
        DUE.fails("tag: -2", ILLEGAL, () -> page.tag(0, -2));
        DUE.fails("tag: 101", ILLEGAL, () -> page.tag(0, 101));
        DUE.fails("tag: no sign", NO_SIGN, () -> page.tag(4, 0));
        DUE.fails("tag: no sign, no tag", NO_SIGN, () -> page.tag(-1, 101));
    }

    private static void tagsInOneSegment() {
        Page page = Page.telling("abc");
        page.sign('a', 0, 0, 5, 10);
        page.sign('b', 7, 0, 5, 10);
        page.sign('c', 12, 0, 5, 10);
        DUE.reads("segment: no tags", page, "a bc");
        page.tag(1, 5);
        DUE.reads("segment: one taken out", page, "b\na\nc");
        page.tag(2, 6);
        DUE.reads("segment: the next, of another tag", page, "bc\na");
        page.tag(0, 4);
        DUE.reads("segment: three tags", page, "a bc");
        page.tag(0, 7);
        DUE.reads("segment: the first one last", page, "bc\na");
    }

    private static void lengthLetterFrom() {
        Page page = Page.telling("ab");
        page.map(1, 'L', 'f', 'i');
        page.sign('a', 0, 0, 5, 10);
        page.sign('L', 5, 0, 5, 10);
        page.sign('b', 12, 0, 5, 10);
        page.sign('a', 0, -12, 5, 10);
        page.sign('?', 0, -100, 5, 10);
        int[] letters = {'a', 'f', 'i', 32, 'b', 32, 'a', 10, 65533};
        int[] from = {0, 1, 1, -1, 2, -1, 3, -1, 4};
        DUE.is("length", page.length(), letters.length);
        for (int i = 0; i < letters.length; i++) {
            DUE.is("letter " + i, page.letter(i), letters[i]);
            DUE.is("from " + i, page.from(i), from[i]);
        }
        DUE.fails("letter: -1", OUTSIDE, () -> page.letter(-1));
        DUE.fails("letter: behind", OUTSIDE, () -> page.letter(letters.length));
        DUE.fails("from: -1", OUTSIDE, () -> page.from(-1));
        DUE.fails("from: behind", OUTSIDE, () -> page.from(letters.length));
    }

    /** Two lines of one block, the first ending with these letters, the second with this one. */
    private static Page twoLines(int first, int second, int later) {
        Page page = new Page();
        page.map(0, 1, first, second);
        page.map(0, 2, later, 0);
        page.sign(1, 0, 0, 5, 10);
        page.sign(2, 0, -12, 5, 10);
        return page;
    }

    private static void hyphens() {
        DUE.reads("hyphen: joined", twoLines('x', '-', 'a'), "xa");
        DUE.reads("hyphen: joined with z", twoLines('x', '-', 'z'), "xz");
        DUE.reads("hyphen: before a", twoLines('x', '-', 96), "x- `");
        DUE.reads("hyphen: behind z", twoLines('x', '-', 123), "x- {");
        DUE.reads("hyphen: before a great letter", twoLines('x', '-', 'A'), "x- A");
        DUE.reads("hyphen: not the last letter", twoLines('-', 'x', 'a'), "-x a");
        DUE.reads("hyphen: the only letter", twoLines('-', 0, 'a'), "a");
        DUE.is("hyphen: from", twoLines('-', 0, 'a').from(0), 1);
        DUE.reads("hyphen: only one of two goes", twoLines('-', '-', 'a'), "-a");
        Page blocks = Page.telling("-a");
        blocks.sign('-', 0, 0, 5, 10);
        blocks.sign('a', 0, -100, 5, 10);
        DUE.reads("hyphen: not over blocks", blocks, "-\na");
        Page tags = twoLines('x', '-', 'a');
        tags.tag(0, 3);
        DUE.reads("hyphen: not over tags", tags, "x-\na");
        tags.tag(1, 3);
        DUE.reads("hyphen: in one tag", tags, "xa");
        Page row = Page.telling("-a");
        row.sign('-', 0, 0, 5, 10);
        row.sign('a', 5, 0, 5, 10);
        DUE.reads("hyphen: not in a segment", row, "-a");
    }

    private static void line() {
        Page page = Page.telling("abcdef");
        page.sign('a', 0, 0, 5, 11);
        page.sign('b', 5, -5, 5, 10);
        page.sign('c', 10, -6, 5, 11);
        page.sign('d', 15, -11, 5, 10);
        page.sign('e', 20, -12, 5, 10);
        int[] want = {0, 0, 1, 1, 2};
        for (int i = 0; i < want.length; i++) {
            DUE.is("line of " + i, page.line(i), want[i]);
        }
        page.sign('f', -5, 1, 5, 4);
        DUE.is("line: a small head's half", page.line(5), 0);
        DUE.is("line: taken by the head", page.line(0), 0);
        DUE.is("line: left by the head", page.line(1), 1);
        DUE.fails("line: -1", NO_SIGN, () -> page.line(-1));
        DUE.fails("line: behind", NO_SIGN, () -> page.line(6));
        Page half = Page.telling("ab");
        half.sign('a', 0, 0, 5, 10);
        half.sign('b', 5, -5, 5, 10);
        DUE.is("line: less by half the size", half.line(1), 0);
        half.sign('b', 5, -6, 5, 1);
        DUE.is("line: a double of one in a line", half.line(2), -1);
        Page back = Page.telling("abc");
        back.sign('c', 10, 0, 5, 10);
        back.sign('b', 5, 0, 5, 10);
        back.sign('a', 0, 0, 5, 10);
        DUE.reads("line: by u", back, "abc");
        Page heads = Page.telling("abc");
        heads.sign('a', 10, 0, 5, 20);
        heads.sign('b', 0, 0, 5, 2);
        heads.sign('c', 20, -5, 5, 10);
        DUE.is("line: of one v, the least u is head", heads.line(2), 1);
        Page same = Page.telling("abc");
        same.sign('a', 0, 0, 5, 2);
        same.sign('b', 0, 0, 5, 20);
        same.sign('c', 20, -5, 5, 10);
        DUE.is("line: of one u, the least number is head", same.line(2), 1);
        DUE.reads("line: of one u, by number", same, "ab c");
    }

    private static void turnedLines() {
        Page page = Page.telling("abcd");
        page.sign('a', 0, 0, 5, 10);
        page.sign('b', 0, 5, 5, 10);
        page.sign('c', 12, 0, 5, 10);
        page.sign('d', 500, -500, 5, 10);
        for (int i = 0; i < 3; i++) {
            page.turn(i, true);
        }
        DUE.is("turned: line behind all others", page.line(0), 1);
        DUE.is("turned: along y", page.line(1), 1);
        DUE.is("turned: x grows downward", page.line(2), 2);
        DUE.is("turned: not turned first", page.line(3), 0);
        DUE.is("turned: block", page.block(0), 1);
        DUE.reads("turned: text", page, "d\nab c");
    }

    private static void segmentsAndSpaces() {
        Page page = Page.telling("abcdefg");
        page.sign('a', 0, 0, 8, 10);
        page.sign('b', 10, 0, 8, 10);
        page.sign('c', 19, 0, 8, 10);
        page.sign('d', 56, 0, 8, 10);
        page.sign('e', 94, 0, 0, 10);
        page.sign('f', 100, 0, 8, 10);
        page.sign('g', 100, 0, 8, 10);
        boolean[] want = {true, false, true, false, false, false, false};
        for (int i = 0; i < want.length; i++) {
            DUE.is("space behind " + i, page.space(i) ? 1 : 0, want[i] ? 1 : 0);
        }
        DUE.is("cut: block before", page.block(3), 0);
        DUE.is("cut: block behind", page.block(4), 1);
        DUE.reads("cut: text", page, "a bc d\nefg");
        DUE.fails("space: -1", NO_SIGN, () -> page.space(-1) ? 1 : 0);
        DUE.fails("space: behind", NO_SIGN, () -> page.space(7) ? 1 : 0);
        Page thin = Page.telling("ab");
        thin.sign('a', 0, 0, 0, 10);
        thin.sign('b', 29, 0, 5, 10);
        DUE.reads("space: none without a width", thin, "ab");
        thin.sign('b', 60, 0, 5, 5);
        DUE.is("space: cut without a width at 3 sizes of its own", thin.block(2), 0);
        Page none = Page.telling("ab");
        none.sign('a', 0, 0, 0, 10);
        none.sign('b', 30, 0, 5, 10);
        DUE.is("space: cut without a width", none.block(1), 1);
        Page one = Page.telling("ab");
        one.sign('a', 0, 0, 1, 10);
        one.sign('b', 2, 0, 5, 10);
        DUE.reads("space: of a gap and a width of 1", one, "a b");
        one.sign('a', 1, 0, 1, 10);
        DUE.is("space: gone when the gap is filled", one.space(0) ? 1 : 0, 0);
        Page over = Page.telling("ab");
        over.sign('a', 0, 0, 5, 10);
        over.sign('b', 3, 0, 5, 10);
        DUE.is("space: none where they overlap", over.space(0) ? 1 : 0, 0);
        Page cutOff = Page.telling("ab");
        cutOff.sign('a', 0, 0, 1001, 1000);
        cutOff.sign('b', 1251, 0, 5, 1000);
        DUE.is("space: 249.7 is below 250", cutOff.space(0) ? 1 : 0, 0);
    }

    private static void blocksAcross() {
        Page page = Page.telling("abcd");
        page.sign('a', 0, 0, 5, 10);
        page.sign('b', 35, 0, 5, 10);
        page.sign('c', 0, -12, 5, 10);
        page.sign('d', 35, -12, 5, 10);
        int[] want = {0, 1, 0, 1};
        for (int i = 0; i < 4; i++) {
            DUE.is("across: block of " + i, page.block(i), want[i]);
        }
        DUE.reads("across: text", page, "a c\nb d");
        page.sign('a', 0, 12, 16, 10);
        DUE.is("across: 19 is less than twice the size", page.block(1), 0);
        DUE.reads("across: text of one block", page, "a a b c d");
        Page twenty = Page.telling("abcd");
        twenty.sign('a', 0, 0, 5, 10);
        twenty.sign('b', 35, 0, 5, 10);
        twenty.sign('c', 0, 12, 15, 10);
        DUE.is("across: 20 is twice the size", twenty.block(1), 1);
        twenty.sign('d', 0, 24, 5, 11);
        DUE.is("across: of the greatest size", twenty.block(1), 0);
        DUE.fails("block: -1", NO_SIGN, () -> page.block(-1));
        DUE.fails("block: behind", NO_SIGN, () -> page.block(5));
    }

    private static void blocksDown() {
        Page page = Page.telling("abc");
        page.sign('a', 0, 0, 5, 10);
        page.sign('b', 0, -20, 5, 10);
        page.sign('c', 0, -39, 5, 10);
        int[] want = {0, 1, 1};
        for (int i = 0; i < 3; i++) {
            DUE.is("down: block of " + i, page.block(i), want[i]);
        }
        DUE.reads("down: text", page, "a\nb c");
        Page order = Page.telling("ab");
        order.sign('a', 0, -50, 5, 10);
        order.sign('b', 100, 0, 5, 10);
        DUE.reads("down: left before right goes first", order, "a\nb");
        Page upper = Page.telling("ab");
        upper.sign('a', 0, -50, 5, 10);
        upper.sign('b', 10, 0, 5, 10);
        DUE.reads("down: upper first", upper, "b\na");
    }

    /** A heading over two columns, the left one with a gap in it. */
    private static void blocksWithinBlocks() {
        Page page = Page.telling("habcd");
        page.sign('h', 0, 0, 60, 10);
        page.sign('a', 0, -30, 5, 10);
        page.sign('b', 50, -30, 5, 10);
        page.sign('c', 0, -60, 5, 10);
        page.sign('d', 50, -42, 5, 10);
        int[] want = {0, 1, 3, 2, 3};
        for (int i = 0; i < 5; i++) {
            DUE.is("within: block of " + i, page.block(i), want[i]);
        }
        DUE.reads("within: text", page, "h\na\nc\nb d");
    }

    /** A heading over two rows of two columns: which gap parts first tells what comes next. */
    private static Page headingAndRows(long second, long third) {
        Page page = Page.telling("habcd");
        page.sign('h', 0, 0, 60, 10);
        page.sign('a', 0, second, 5, 10);
        page.sign('b', 50, second, 5, 10);
        page.sign('c', 0, third, 5, 10);
        page.sign('d', 50, third, 5, 10);
        return page;
    }

    private static void blocksByTheWidestGap() {
        DUE.reads("widest: the lower gap", headingAndRows(-30, -61), "h\na\nb\nc\nd");
        DUE.reads("widest: the upper gap", headingAndRows(-31, -61), "h\na\nc\nb\nd");
        DUE.reads("widest: of equal ones the first", headingAndRows(-30, -60), "h\na\nc\nb\nd");
        DUE.reads("widest: the lower gap alone", headingAndRows(-12, -61), "h a b\nc\nd");
    }

    /** What a segment's later signs reach counts, not only its first or last one's. */
    private static void blocksByAllSignsOfSegments() {
        Page right = Page.telling("abcd");
        right.sign('a', 0, 0, 50, 10);
        right.sign('b', 5, 0, 5, 10);
        right.sign('c', 60, -12, 5, 10);
        DUE.is("segment: the right of the first sign", right.block(2), 0);
        right.sign('d', 75, -24, 5, 10);
        DUE.is("segment: no gap yet", right.block(3), 0);
        Page later = Page.telling("abc");
        later.sign('a', 0, 0, 5, 10);
        later.sign('b', 5, 0, 20, 10);
        later.sign('c', 44, -12, 5, 10);
        DUE.is("segment: the right of the second sign", later.block(2), 0);
        Page bottom = Page.telling("abc");
        bottom.sign('a', 0, 0, 5, 10);
        bottom.sign('b', 5, -5, 5, 10);
        bottom.sign('c', 0, -24, 5, 10);
        DUE.is("segment: the bottom of the second sign", bottom.block(2), 0);
        Page top = Page.telling("abc");
        top.sign('a', 0, 0, 5, 10);
        top.sign('b', 0, -25, 5, 5);
        top.sign('c', 5, -25, 5, 13);
        DUE.is("segment: the greatest size", top.block(1), 0);
        DUE.is("segment: the line of the second sign", top.line(2), 1);
        Page high = Page.telling("abc");
        high.sign('a', 0, 0, 5, 10);
        high.sign('b', 0, -18, 5, 6);
        high.sign('c', 5, -19, 5, 10);
        DUE.is("segment: the top of the second sign", high.block(1), 0);
        Page low = Page.telling("ab");
        low.sign('a', 0, 0, 5, 10);
        low.sign('b', 0, -18, 5, 8);
        DUE.is("segment: parted by once the size", low.block(1), 1);
    }

    /** Two segments of the second line, one of the first over both: one block. */
    private static void blocksByLines() {
        Page page = Page.telling("abcd");
        page.sign('c', 0, -12, 5, 10);
        page.sign('d', 40, -12, 5, 10);
        page.sign('a', 0, 0, 45, 10);
        page.sign('b', 45, 0, 5, 10);
        DUE.is("by lines: one block", page.block(1), 0);
        DUE.reads("by lines: text", page, "ab c d");
        Page first = Page.telling("abc");
        first.sign('a', 0, 0, 5, 10);
        first.sign('b', 35, 0, 5, 10);
        first.sign('c', 70, 0, 5, 10);
        DUE.reads("equal gaps: text", first, "a\nb\nc");
        first.sign('a', 0, -20, 5, 10);
        first.sign('b', 35, -40, 5, 10);
        DUE.reads("equal gaps: columns first", first, "a\na\nb\nb\nc");
    }

    /** Each gap is the widest of those left, from either end: 200 partings, one within another. */
    private static void manyBlocks() {
        for (int way = 0; way < 2; way++) {
            Page page = new Page();
            long x = -900000;
            for (int i = 0; i < 200; i++) {
                page.sign(i, x, 0, 1, 1);
                x += way == 0 ? 1000 - i : 800 + i;
            }
            for (int i = 0; i < 200; i++) {
                DUE.is("many: block of " + i, page.block(i), i);
            }
            DUE.is("many: length", page.length(), 399);
        }
        Page down = new Page();
        for (int i = 0; i < 200; i++) {
            down.sign(i, i % 2, 900000 - 100 * i - i * i, 1, 1);
        }
        for (int i = 0; i < 200; i++) {
            DUE.is("many down: block of " + i, down.block(i), i);
        }
    }

    private static void twice() {
        Page page = Page.telling("ab");
        page.sign('a', 0, 0, 8, 8);
        page.sign('a', 2, -2, 100, 100);
        page.sign('a', 3, 0, 8, 8);
        page.sign('a', 0, 3, 8, 8);
        page.sign('b', 0, 0, 8, 8);
        page.sign('a', 1, 1, 8, 8);
        int[] want = {-1, 0, -1, -1, -1, 0};
        for (int i = 0; i < want.length; i++) {
            DUE.is("twice " + i, page.twice(i), want[i]);
        }
        DUE.is("twice: line of a double", page.line(1), -1);
        DUE.is("twice: block of a double", page.block(1), -1);
        DUE.is("twice: no space", page.space(1) ? 1 : 0, 0);
        page.turn(0, true);
        DUE.is("twice: as much turned", page.twice(1), -1);
        DUE.is("twice: of the first that is none", page.twice(2), 1);
        page.turn(1, true);
        DUE.is("twice: both turned", page.twice(1), 0);
        page.map(0, 'b', 0, 0);
        page.map(0, 'c', 65533, 0);
        page.sign('c', 0, 0, 8, 8);
        DUE.is("twice: letters count, not codes", page.twice(6), 4);
        page.map(0, 'c', 65533, 65533);
        DUE.is("twice: both letters", page.twice(6), -1);
        DUE.fails("twice: -1", NO_SIGN, () -> page.twice(-1));
        DUE.fails("twice: behind", NO_SIGN, () -> page.twice(7));
        Page chain = Page.telling("a");
        chain.sign('a', 0, 0, 8, 8);
        chain.sign('a', 2, 0, 8, 8);
        chain.sign('a', 4, 0, 8, 8);
        DUE.is("twice: not of a double", chain.twice(2), -1);
        Page passed = Page.telling("ab");
        passed.sign('a', 0, 0, 5, 10);
        passed.sign('a', 1, 0, 100, 1000);
        passed.sign('b', 20, 0, 5, 10);
        DUE.reads("twice: passed in all that follows", passed, "a b");
        Page turned = Page.telling("a");
        turned.sign('a', 0, 0, 4, 40);
        turned.sign('a', 10, 1, 4, 40);
        DUE.is("twice: too far along x", turned.twice(1), -1);
        turned.turn(0, true);
        turned.turn(1, true);
        DUE.is("twice: by u and v", turned.twice(1), 0);
    }

    private static void share() {
        Page page = new Page();
        DUE.is("share", page.share(1, 4), 250);
        DUE.is("share: cut off", page.share(2, 3), 666);
        DUE.is("share: cut off below 0", page.share(-2, 3), -666);
        DUE.is("share: below 0 both", page.share(-2, -3), 666);
        DUE.is("share: 0", page.share(0, -3), 0);
        DUE.is("share: as longs", page.share(Long.MAX_VALUE, 1), -1000);
        DUE.is("share: as longs, cut off", page.share(Long.MAX_VALUE, 3), -333);
        DUE.is("share: no other", page.share(1L << 60, -1), -(1000L << 60));
        DUE.is("share: least by -1", page.share(1L << 63 >>> 3, -1), -(1000L * (1L << 60)));
        DUE.is("share: least", page.share(Long.MIN_VALUE, Long.MIN_VALUE), 0);
        DUE.fails("share: 0", ArithmeticException.class, () -> page.share(0, 0));
        DUE.fails("share: of 0", ArithmeticException.class, () -> page.share(5, 0));
    }

    private static void word() {
        Page page = Page.telling("abcd");
        page.map(0, '_', 32, 0);
        page.map(0, '|', 'x', 10);
        String codes = "_ab_c__|d_";
        for (int i = 0; i < codes.length(); i++) {
            page.sign(codes.charAt(i), i * 5, 0, 5, 10);
        }
        DUE.reads("word: text", page, " ab c  x\nd ");
        int[][] want = {{1, 2}, {4, 1}, {7, 1}, {9, 1}};
        DUE.is("word: how many", page.word(-1, 0), want.length);
        DUE.is("word: how many, whatever is asked", page.word(-1, -5), want.length);
        for (int i = 0; i < want.length; i++) {
            DUE.is("word begins " + i, page.word(i, 0), want[i][0]);
            DUE.is("word has " + i, page.word(i, 1), want[i][1]);
        }
        DUE.fails("word: behind", OUTSIDE, () -> page.word(want.length, 0));
        DUE.fails("word: -2", OUTSIDE, () -> page.word(-2, 0));
        DUE.fails("word: what -1", OUTSIDE, () -> page.word(0, -1));
        DUE.fails("word: what 2", OUTSIDE, () -> page.word(0, 2));
        DUE.is("word: the first letter begins one", rows("ab").word(0, 0), 0);
        DUE.is("word: one in all", rows("ab").word(-1, 0), 1);
        page.sign('a', 50, 0, 5, 10);
        DUE.is("word: the last one", page.word(4, 0), 11);
        DUE.is("word: the last one's length", page.word(4, 1), 1);
    }

    private static Page rows(String... rows) {
        Page page = new Page();
        for (int r = 0; r < rows.length; r++) {
            for (int i = 0; i < rows[r].length(); i++) {
                int c = rows[r].charAt(i);
                page.map(0, c, c, 0);
                page.sign(c, i * 5, -r * 12, 5, 10);
            }
        }
        return page;
    }

    private static int seek(Page page, String sought) {
        for (int i = 0; i < sought.length(); i++) {
            DUE.is("find: letters sought", page.find(sought.charAt(i)), i + 1);
        }
        return page.find(0);
    }

    private static void find() {
        Page page = rows("aaab", "ab");
        DUE.reads("find: text", page, "aaab ab");
        DUE.is("find: overlapping", seek(page, "aa"), 2);
        DUE.is("find: over lines", seek(page, "b a"), 1);
        DUE.is("find: 10 sought is as 32", seek(page, "b\na"), 1);
        DUE.is("find: at the end", seek(page, "ab"), 2);
        DUE.is("find: all", seek(page, "aaab ab"), 1);
        DUE.is("find: more than all", seek(page, "aaab aba"), 0);
        DUE.is("find: gone", page.find(0), 0);
        DUE.fails("find: -1", ILLEGAL, () -> page.find(-1));
        DUE.fails("find: over", ILLEGAL, () -> page.find(65536));
        for (int i = 1; i <= 20; i++) {
            DUE.is("find: the most", page.find(i == 20 ? 65535 : 1), i);
        }
        DUE.fails("find: the 21st", FULL, () -> page.find(1));
        DUE.fails("find: the 21st, and wrong", ILLEGAL, () -> page.find(65536));
        DUE.is("find: 20 sought", page.find(0), 0);
        DUE.is("find: none sought any more", page.find(1), 1);
        Page blocks = Page.telling("ab");
        blocks.sign('a', 0, 0, 5, 10);
        blocks.sign('b', 0, -100, 5, 10);
        DUE.is("find: over blocks", seek(blocks, "a b"), 1);
        Page feed = new Page();
        feed.map(0, 1, 10, 32);
        feed.sign(1, 0, 0, 5, 10);
        DUE.is("find: a sign's 10 as 32", seek(feed, " "), 2);
        Page late = new Page();
        late.find('a');
        late.map(0, 'a', 'a', 0);
        late.sign('a', 0, 0, 5, 10);
        DUE.is("find: in the text as it is then", late.find(0), 1);
    }

    private static void found() {
        Page page = rows("abab", "ab");
        seek(page, "ab");
        int[] want = {0, 2, 5};
        for (int i = 0; i < want.length; i++) {
            DUE.is("found " + i, page.found(i), want[i]);
        }
        DUE.fails("found: -1", OUTSIDE, () -> page.found(-1));
        DUE.fails("found: behind", OUTSIDE, () -> page.found(3));
        page.map(0, 'a', 'x', 'y');
        page.find('x');
        DUE.is("found: as the text was then", page.found(2), 5);
        page.find('y');
        page.find('b');
        DUE.is("found: anew", page.find(0), 3);
        DUE.is("found: by the latest", page.found(1), 3);
        DUE.is("found: the last by the latest", page.found(2), 7);
        page.find(0);
        DUE.fails("found: none by the latest", OUTSIDE, () -> page.found(0));
    }

    private static void area() {
        Page page = Page.telling("a-b");
        page.map(0, 'L', 'f', 'i');
        page.sign('L', 0, 0, 5, 10);
        page.sign('-', 5, 0, 5, 10);
        page.sign('b', 0, -12, 5, 10);
        page.sign('a', 7, -12, 5, 10);
        page.sign('a', 7, -12, 5, 10);
        DUE.reads("area: text", page, "fib a");
        DUE.is("area: the joined one is gone", page.area(0, 0, 5, 0), 2);
        DUE.is("area: all", page.area(Long.MIN_VALUE, Long.MIN_VALUE, Long.MAX_VALUE, Long.MAX_VALUE), 4);
        DUE.is("area: one place", page.area(7, -12, 7, -12), 1);
        DUE.is("area: ends with it", page.area(0, -12, 7, -12), 2);
        DUE.is("area: left of it", page.area(1, -12, 6, 0), 0);
        DUE.is("area: below it", page.area(0, -11, 7, -1), 0);
        DUE.is("area: none between", page.area(7, 0, 0, -12), 0);
        page.map(0, 'b', 'b', 'c');
        DUE.is("area: by the maps as they are", page.area(0, -12, 0, -12), 2);
        page.turn(3, true);
        page.turn(4, true);
        DUE.is("area: by (x, y) of a turned one, too", page.area(7, -12, 7, -12), 1);
    }

    private static void thrownChangesNothing() {
        Page page = rows("ab", "ab");
        page.find('b');
        page.find(0);
        page.find('a');
        DUE.fails("thrown: sign", ILLEGAL, () -> page.sign(0, 0, 0, 0, 0));
        DUE.fails("thrown: map", ILLEGAL, () -> page.map(0, 'a', 70000, 0));
        DUE.fails("thrown: map's second", ILLEGAL, () -> page.map(0, 'a', 'c', -1));
        DUE.fails("thrown: tag", ILLEGAL, () -> page.tag(1, 200));
        DUE.fails("thrown: turn", NO_SIGN, () -> page.turn(4, true));
        DUE.fails("thrown: find", ILLEGAL, () -> page.find(-7));
        DUE.reads("thrown: text", page, "ab ab");
        DUE.is("thrown: found", page.found(1), 4);
        DUE.is("thrown: sought", page.find('b'), 2);
        DUE.is("thrown: find", page.find(0), 2);
        DUE.is("thrown: tag", page.tag(1, -1), -1);
        DUE.is("thrown: map", page.map(0, 'a', 'a', 0), 1);
    }
}
