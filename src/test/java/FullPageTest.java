import java.util.NoSuchElementException;

/** The full page (200 signs) in its extreme shapes, and objects that are used for all 512 calls. */
public final class FullPageTest {
    private static final Due DUE = new Due();
    private static final Class<IndexOutOfBoundsException> OUTSIDE = IndexOutOfBoundsException.class;
    private static final int SIGNS = 200;

    public static void main(String[] args) {
        for (boolean turned : new boolean[] {false, true}) {
            longestText(turned);
            oneLine(turned);
        }
        oneSegmentPerLine();
        allDoublesOfOne();
        allBlanks();
        allJoined();
        allTags();
        columnsWithinRows();
        the512thCall();
        refusedCallsCountToo();
        DUE.end();
    }

    private static void put(Page page, int code, long u, long v, boolean turned) {
        int sign = page.sign(code, turned ? -v : u, turned ? u : v, 5, 10);
        if (turned) {
            page.turn(sign, true);
        }
    }

    /** Two letters of each sign, and 10 between every two: 599 letters. */
    private static void longestText(boolean turned) {
        Page page = new Page();
        page.map(3, 0, 'x', 'y');
        for (int i = 0; i < SIGNS; i++) {
            put(page, 0, 0, -20L * i, turned);
        }
        DUE.is("longest: length", page.length(), 599);
        DUE.is("longest: the last letter", page.letter(598), 'y');
        DUE.is("longest: of the last sign", page.from(598), 199);
        DUE.is("longest: between the last two", page.letter(596), 10);
        DUE.fails("longest: behind it", OUTSIDE, () -> page.letter(599));
        DUE.fails("longest: behind it, from", OUTSIDE, () -> page.from(599));
        DUE.is("longest: the last line", page.line(199), 199);
        DUE.is("longest: the last block", page.block(199), 199);
        DUE.is("longest: words", page.word(-1, 0), 200);
        DUE.is("longest: the last word", page.word(199, 0), 597);
        DUE.is("longest: its letters", page.word(199, 1), 2);
        DUE.is("longest: letters of signs", page.area(-1000000, -1000000, 1000000, 1000000), 400);
        page.find('y');
        DUE.is("longest: places", page.find(0), 200);
        DUE.is("longest: the last place", page.found(199), 598);
        DUE.fails("longest: behind it, found", OUTSIDE, () -> page.found(200));
        page.find('y');
        page.find(' ');
        page.find('x');
        DUE.is("longest: places between", page.find(0), 199);
        DUE.is("longest: the last place between", page.found(198), 595);
    }

    private static void oneLine(boolean turned) {
        Page page = Page.telling("a");
        for (int i = SIGNS - 1; i >= 0; i--) {
            put(page, 'a', 7L * i, 0, turned);
        }
        DUE.is("one line: the last sign", page.line(199), 0);
        DUE.is("one line: one block", page.block(0), 0);
        DUE.is("one line: a space behind the first", page.space(199) ? 1 : 0, 1);
        DUE.is("one line: none behind the last", page.space(0) ? 1 : 0, 0);
        DUE.is("one line: length", page.length(), 399);
        DUE.is("one line: the first letter", page.from(0), 199);
        DUE.is("one line: the last letter", page.from(398), 0);
        DUE.is("one line: words", page.word(-1, 0), 200);
    }

    /** One block of 200 lines, from the highest number up. */
    private static void oneSegmentPerLine() {
        Page page = Page.telling("a");
        for (int i = 0; i < SIGNS; i++) {
            page.sign('a', i % 2, -12L * (SIGNS - 1 - i), 5, 10);
        }
        DUE.is("one block: the first sign's line", page.line(0), 199);
        DUE.is("one block: the last sign's line", page.line(199), 0);
        DUE.is("one block: block", page.block(0), 0);
        DUE.is("one block: length", page.length(), 399);
        DUE.is("one block: a blank between", page.letter(1), 32);
        DUE.is("one block: the last letter", page.from(398), 0);
    }

    private static void allDoublesOfOne() {
        Page page = Page.telling("a");
        for (int i = 0; i < SIGNS; i++) {
            page.sign('a', 0, 0, 5, 10);
        }
        DUE.is("all doubles: the first is none", page.twice(0), -1);
        for (int i = 1; i < SIGNS; i++) {
            DUE.is("all doubles: " + i, page.twice(i), 0);
        }
        DUE.is("all doubles: length", page.length(), 1);
        DUE.is("all doubles: area", page.area(0, 0, 0, 0), 1);
        DUE.fails("all doubles: no sign more", UnsupportedOperationException.class,
                () -> page.sign('b', 9, 9, 9, 9));
    }

    /** As many places as there can be: each of the 599 letters is 10 or 32. */
    private static void allBlanks() {
        Page page = new Page();
        page.map(0, 0, 10, 32);
        for (int i = 0; i < SIGNS; i++) {
            page.sign(0, 0, -20L * i, 5, 10);
        }
        page.find(32);
        DUE.is("all blanks: places", page.find(0), 599);
        DUE.is("all blanks: the last", page.found(598), 598);
        DUE.fails("all blanks: behind", OUTSIDE, () -> page.found(599));
        for (int i = 0; i < 20; i++) {
            page.find(i % 2 == 0 ? 10 : 32);
        }
        DUE.is("all blanks: places of 20", page.find(0), 580);
        DUE.is("all blanks: the last of 20", page.found(579), 579);
        DUE.is("all blanks: no words", page.word(-1, 0), 0);
        DUE.fails("all blanks: no word", OUTSIDE, () -> page.word(0, 0));
    }

    private static void allJoined() {
        Page page = new Page();
        page.map(0, 0, 'x', '-');
        for (int i = 0; i < SIGNS; i++) {
            page.sign(0, 0, -12L * i, 5, 10);
        }
        DUE.is("all joined: length", page.length(), 201);
        DUE.is("all joined: the last x", page.from(199), 199);
        DUE.is("all joined: the last hyphen", page.letter(200), 45);
        DUE.is("all joined: one word", page.word(-1, 0), 1);
        DUE.is("all joined: of all letters", page.word(0, 1), 201);
    }

    /** Sign i has tag 100 - i / 2 up to tag 1: the last two signs come first. */
    private static void allTags() {
        Page page = Page.telling("a");
        for (int i = 0; i < SIGNS; i++) {
            page.sign('a', 0, -12L * i, 5, 10);
            DUE.is("all tags: none before", page.tag(i, 100 - i / 2), -1);
        }
        DUE.is("all tags: length", page.length(), 399);
        DUE.is("all tags: the first", page.from(0), 198);
        DUE.is("all tags: the second", page.from(2), 199);
        DUE.is("all tags: a blank within a tag", page.letter(1), 32);
        DUE.is("all tags: 10 between tags", page.letter(3), 10);
        DUE.is("all tags: the last", page.from(398), 1);
    }

    /** A column left of all others, then a row above all others, and so on: 199 partings deep. */
    private static void columnsWithinRows() {
        Page page = new Page();
        for (int i = 0; i < SIGNS; i++) {
            long x = 4000L * ((i + 1) / 2) - 900000;
            long y = 900000 - 4000L * (i / 2);
            boolean isColumn = i % 2 == 0;
            page.sign(i, x, y, isColumn ? 1 : 900000, isColumn ? 1000 : 1);
        }
        for (int i = 0; i < SIGNS; i++) {
            DUE.is("deep: block of " + i, page.block(i), i);
        }
        DUE.is("deep: the last line", page.line(199), 99);
        DUE.is("deep: length", page.length(), 399);
    }

    /** "used for at most 512 calls": the 512th is answered as any other. */
    private static void the512thCall() {
        Page page = Page.telling("a");
        for (int i = 0; i < SIGNS; i++) {
            page.sign('a', 10L * i, 0, 5, 10);
        }
        for (int i = 0; i < 154; i++) {
            DUE.is("512 calls: turned", page.turn(i, true), 0);
            page.length();
        }
        DUE.is("512 calls: one more", page.turn(154, true), 0);
        DUE.is("512 calls: two are left", page.callsLeft(), 2);
        DUE.is("512 calls: the 511th", page.line(199), 0);
        DUE.is("512 calls: the 512th", page.line(154), 155);
        DUE.is("512 calls: none is left", page.callsLeft(), 0);
    }

    private static void refusedCallsCountToo() {
        Page page = new Page();
        for (int i = 0; i < 510; i++) {
            DUE.fails("512 calls: refused", NoSuchElementException.class, () -> page.line(0));
        }
        DUE.is("512 calls: the 511th takes a sign", page.sign(0, 0, 0, 0, 1), 0);
        DUE.is("512 calls: the 512th tells of it", page.line(0), 0);
    }
}
