/**
 * The document's Terms, sentence by sentence: every "at most", "or more", "above", "least",
 * "greatest", "first" and "otherwise", with the last value that fits and the first that does not.
 * Blocks, reading order, the text and words are in TextEdgesTest.
 */
public final class TermEdgesTest {
    private static final Due DUE = new Due();

    public static void main(String[] args) {
        placesOfTurnedSigns();
        lettersByTheFirstMap();
        lettersOfNoMap();
        doublesByWidth();
        doublesBySize();
        doublesByThatOnesWidthAndSize();
        doublesOfAnEarlierOne();
        doublesOfOneThatIsNone();
        doublesOfTheFirst();
        doublesOfTheSameLetters();
        doublesAsMuchTurned();
        doublesArePassed();
        linesByHalfTheSize();
        linesByTheHeadsSize();
        linesOfTheGreatestV();
        linesOfTheLeastU();
        linesOfTheLeastNumber();
        linesInOrder();
        linesOfTurnedSigns();
        cutsByThreeSizes();
        cutsByItsOwnSize();
        gapsBehindWidths();
        gapsToTheNext();
        spacesAboveNothing();
        spacesByShares();
        spacesWithoutAWidth();
        spacesNotAtCuts();
        DUE.end();
    }

    /** Puts a sign at (u, v), turned or not. */
    private static int put(Page page, int code, long u, long v, long width, int size, boolean turned) {
        if (!turned) {
            return page.sign(code, u, v, width, size);
        }
        int sign = page.sign(code, -v, u, width, size);
        page.turn(sign, true);
        return sign;
    }

    /** "(x, y), of a turned sign (y, -x)": up the page is along the line, to the left is up. */
    private static void placesOfTurnedSigns() {
        Page page = Page.telling("abcd");
        page.sign('b', 0, 5, 5, 10);
        page.sign('a', 0, 0, 5, 10);
        page.sign('c', 6, 0, 5, 10);
        page.sign('d', 6, 7, 5, 10);
        for (int i = 0; i < 4; i++) {
            page.turn(i, true);
        }
        int[] lines = {0, 0, 1, 1};
        for (int i = 0; i < 4; i++) {
            DUE.is("turned: line of " + i, page.line(i), lines[i]);
        }
        DUE.reads("turned: y, then x", page, "ab c d");
        for (int i = 0; i < 4; i++) {
            page.turn(i, false);
        }
        DUE.reads("turned back: x, then y", page, "bd ac");
    }

    /** "by the first of the MAPS 0 .. 3 that tells it". */
    private static void lettersByTheFirstMap() {
        for (int first = 0; first < 4; first++) {
            for (int later = first + 1; later < 4; later++) {
                Page page = new Page();
                page.sign(255, 0, 0, 5, 10);
                page.map(later, 255, 'x', 'y');
                DUE.reads("map " + later + " alone", page, "xy");
                page.map(first, 255, 'a', 0);
                DUE.reads("map " + first + " before map " + later, page, "a");
                page.map(later, 255, 'z', 0);
                DUE.reads("map " + later + " told behind it", page, "a");
                page.map(first, 255, 0, 0);
                DUE.reads("map " + first + " tells none any more", page, "z");
            }
        }
    }

    /** "65533 if none does": one letter, of each code that no map tells. */
    private static void lettersOfNoMap() {
        Page page = new Page();
        page.sign(0, 0, 0, 5, 10);
        page.sign(255, 5, 0, 5, 10);
        page.map(0, 254, 'a', 0);
        page.map(3, 1, 'b', 0);
        DUE.is("no map: length", page.length(), 2);
        DUE.is("no map: code 0", page.letter(0), 65533);
        DUE.is("no map: code 255", page.letter(1), 65533);
    }

    private static int twiceAt(long width, int size, long farU, long farV, boolean turned) {
        Page page = Page.telling("a");
        put(page, 'a', 100, 100, width, size, turned);
        put(page, 'a', 100 + farU, 100 + farV, width, size, turned);
        return page.twice(1);
    }

    private static void doubleUpTo(String what, long width, int size, long lastU, long lastV) {
        for (boolean turned : new boolean[] {false, true}) {
            for (int side = -1; side <= 1; side += 2) {
                DUE.is(what + ": u at most", twiceAt(width, size, side * lastU, 0, turned), 0);
                DUE.is(what + ": u beyond", twiceAt(width, size, side * (lastU + 1), 0, turned), -1);
                DUE.is(what + ": v at most", twiceAt(width, size, 0, side * lastV, turned), 0);
                DUE.is(what + ": v beyond", twiceAt(width, size, 0, side * (lastV + 1), turned), -1);
                DUE.is(what + ": both at most", twiceAt(width, size, side * lastU, side * lastV, turned), 0);
                DUE.is(what + ": both, across", twiceAt(width, size, side * lastU, -side * lastV, turned), 0);
            }
        }
    }

    /** "four times how far its u is from that one's is that one's width at most". */
    private static void doublesByWidth() {
        doubleUpTo("double: width 0", 0, 8, 0, 2);
        doubleUpTo("double: width 3", 3, 8, 0, 2);
        doubleUpTo("double: width 4", 4, 8, 1, 2);
        doubleUpTo("double: width 7", 7, 8, 1, 2);
        doubleUpTo("double: width 8", 8, 8, 2, 2);
        doubleUpTo("double: width 400000", 400000, 8, 100000, 2);
        Page page = Page.telling("a");
        page.sign('a', -1000000, 0, 1000000, 8);
        page.sign('a', -750000, 0, 1000000, 8);
        page.sign('a', -749999, 0, 0, 8);
        page.sign('a', 1000000, 0, 0, 8);
        DUE.is("double: a quarter of the greatest width", page.twice(1), 0);
        DUE.is("double: more than a quarter of it", page.twice(2), -1);
        DUE.is("double: at the other end", page.twice(3), -1);
    }

    /** "four times how far its v is from that one's is that one's size at most". */
    private static void doublesBySize() {
        doubleUpTo("double: size 1", 8, 1, 2, 0);
        doubleUpTo("double: size 3", 8, 3, 2, 0);
        doubleUpTo("double: size 4", 8, 4, 2, 1);
        doubleUpTo("double: size 7", 8, 7, 2, 1);
        doubleUpTo("double: size 8", 8, 8, 2, 2);
        doubleUpTo("double: size 1000", 8, 1000, 2, 250);
    }

    private static int twiceOf(long width, int size, long ownWidth, int ownSize) {
        Page page = Page.telling("a");
        page.sign('a', 0, 0, width, size);
        page.sign('a', 2, 2, ownWidth, ownSize);
        return page.twice(1);
    }

    private static void doublesByThatOnesWidthAndSize() {
        DUE.is("double: that one's width", twiceOf(8, 8, 0, 8), 0);
        DUE.is("double: not its own width", twiceOf(7, 8, 1000, 8), -1);
        DUE.is("double: that one's size", twiceOf(8, 8, 8, 1), 0);
        DUE.is("double: not its own size", twiceOf(8, 7, 8, 1000), -1);
        DUE.is("double: not the size across", twiceOf(7, 1000, 8, 8), -1);
        DUE.is("double: not the width along", twiceOf(1000, 7, 8, 8), -1);
    }

    /** "of an earlier one": by number, not by place. */
    private static void doublesOfAnEarlierOne() {
        Page page = Page.telling("a");
        page.sign('a', 1, 0, 8, 8);
        page.sign('a', 0, 0, 8, 8);
        DUE.is("double: the earlier is none", page.twice(0), -1);
        DUE.is("double: the later is one", page.twice(1), 0);
        Page wide = Page.telling("a");
        wide.sign('a', 0, 0, 0, 8);
        wide.sign('a', 1, 0, 1000, 8);
        DUE.is("double: not of a later one", wide.twice(0), -1);
        DUE.is("double: the later is none, either", wide.twice(1), -1);
    }

    /** "of an earlier one that is no double". */
    private static void doublesOfOneThatIsNone() {
        Page page = Page.telling("a");
        page.sign('a', 0, 0, 8, 8);
        page.sign('a', 2, 0, 8, 8);
        page.sign('a', 3, 0, 8, 8);
        page.sign('a', 4, 0, 8, 8);
        page.sign('a', 5, 0, 8, 8);
        page.sign('a', 6, 0, 8, 8);
        int[] want = {-1, 0, -1, 2, 2, -1};
        for (int i = 0; i < want.length; i++) {
            DUE.is("double: of none that is one, " + i, page.twice(i), want[i]);
        }
        page.turn(0, true);
        int[] then = {-1, -1, 1, 1, -1, 4};
        for (int i = 0; i < then.length; i++) {
            DUE.is("double: as they are now, " + i, page.twice(i), then[i]);
        }
    }

    /** "It is a double of the first such one", not of the nearest. */
    private static void doublesOfTheFirst() {
        Page page = Page.telling("a");
        page.sign('a', 0, 0, 8, 8);
        page.sign('a', 3, 0, 8, 8);
        page.sign('a', 2, 0, 8, 8);
        page.sign('a', 3, 0, 8, 8);
        DUE.is("double: of the first", page.twice(2), 0);
        DUE.is("double: of the first that is near enough", page.twice(3), 1);
    }

    private static int twiceByLetters(int first, int second, int otherFirst, int otherSecond) {
        Page page = new Page();
        page.map(0, 1, first, second);
        page.map(1, 2, otherFirst, otherSecond);
        page.sign(1, 0, 0, 8, 8);
        page.sign(2, 0, 0, 8, 8);
        return page.twice(1);
    }

    /** "with the same letters": all of them, whatever the code and the map. */
    private static void doublesOfTheSameLetters() {
        DUE.is("double: one letter", twiceByLetters('a', 0, 'a', 0), 0);
        DUE.is("double: two letters", twiceByLetters('a', 'b', 'a', 'b'), 0);
        DUE.is("double: another letter", twiceByLetters('a', 0, 'b', 0), -1);
        DUE.is("double: one letter more", twiceByLetters('a', 0, 'a', 'a'), -1);
        DUE.is("double: one letter less", twiceByLetters('a', 'b', 'a', 0), -1);
        DUE.is("double: another second", twiceByLetters('a', 'b', 'a', 'c'), -1);
        DUE.is("double: another first", twiceByLetters('a', 'b', 'c', 'b'), -1);
        DUE.is("double: the other way about", twiceByLetters('a', 'b', 'b', 'a'), -1);
        DUE.is("double: two codes of no map", twiceByLetters(0, 0, 0, 0), 0);
        DUE.is("double: 65533 told and not told", twiceByLetters(65533, 0, 0, 0), 0);
        DUE.is("double: 65533 and a second", twiceByLetters(65533, 65533, 0, 0), -1);
    }

    private static void doublesAsMuchTurned() {
        Page page = Page.telling("a");
        page.sign('a', 0, 0, 8, 8);
        page.sign('a', 0, 0, 8, 8);
        DUE.is("double: neither is turned", page.twice(1), 0);
        page.turn(1, true);
        DUE.is("double: the later is turned", page.twice(1), -1);
        page.turn(0, true);
        DUE.is("double: both are turned", page.twice(1), 0);
        page.turn(1, false);
        DUE.is("double: the earlier is turned", page.twice(1), -1);
    }

    /** "and is passed in all that follows": no head of a line, no next one, no size of a block. */
    private static void doublesArePassed() {
        Page page = Page.telling("abc");
        page.sign('a', 0, 0, 8, 8);
        page.sign('a', 1, 2, 1000, 1000);
        page.sign('b', 10, 0, 8, 8);
        page.sign('c', 10, -16, 8, 8);
        int[] lines = {0, -1, 0, 1};
        int[] blocks = {0, -1, 0, 1};
        for (int i = 0; i < 4; i++) {
            DUE.is("double: line of " + i, page.line(i), lines[i]);
            DUE.is("double: block of " + i, page.block(i), blocks[i]);
        }
        DUE.is("double: the gap is behind the one", page.space(0) ? 1 : 0, 1);
        DUE.reads("double: text", page, "a b\nc");
        page.tag(1, 0);
        DUE.reads("double: its tag counts nothing", page, "a b\nc");
        DUE.is("double: area", page.area(1, 2, 1, 2), 0);
    }

    private static int lineBelow(int headSize, long less, int ownSize, boolean turned) {
        Page page = Page.telling("ab");
        put(page, 'a', 0, 500, 5, headSize, turned);
        put(page, 'b', 5, 500 - less, 5, ownSize, turned);
        return page.line(1);
    }

    /** "all that are left whose v is less by half the size of that one at most". */
    private static void linesByHalfTheSize() {
        int[][] sizesAndHalves = {{1, 0}, {2, 1}, {3, 1}, {9, 4}, {10, 5}, {11, 5}, {999, 499}, {1000, 500}};
        for (int[] row : sizesAndHalves) {
            for (boolean turned : new boolean[] {false, true}) {
                DUE.is("line: half of " + row[0], lineBelow(row[0], row[1], 10, turned), 0);
                DUE.is("line: more than half of " + row[0], lineBelow(row[0], row[1] + 1, 10, turned), 1);
            }
        }
    }

    /** "of that one": the head's size, and from the head's v, not from the one before. */
    private static void linesByTheHeadsSize() {
        DUE.is("line: not its own size", lineBelow(10, 6, 1000, false), 1);
        DUE.is("line: the head's size", lineBelow(10, 5, 1, false), 0);
        Page page = Page.telling("abcd");
        page.sign('a', 0, 0, 5, 10);
        page.sign('b', 5, -5, 5, 1000);
        page.sign('c', 10, -10, 5, 4);
        page.sign('d', 15, -12, 5, 10);
        int[] want = {0, 0, 1, 1};
        for (int i = 0; i < 4; i++) {
            DUE.is("line: from the head's v, " + i, page.line(i), want[i]);
        }
    }

    /** "a line has the one with the greatest v": at the page's ends as well. */
    private static void linesOfTheGreatestV() {
        Page page = Page.telling("abc");
        page.sign('a', 0, -1000000, 5, 1000);
        page.sign('b', 0, 1000000, 5, 1000);
        page.sign('c', 0, 0, 5, 1000);
        DUE.is("line: the lowest", page.line(0), 2);
        DUE.is("line: the uppermost", page.line(1), 0);
        DUE.is("line: between", page.line(2), 1);
        Page small = Page.telling("ab");
        small.sign('b', 5, 0, 5, 1000);
        small.sign('a', 0, 1, 5, 1);
        DUE.is("line: the greatest v is small", small.line(1), 0);
        DUE.is("line: the greater sign below it", small.line(0), 1);
    }

    private static int thirdLine(long firstU, int firstSize, long secondU, int secondSize) {
        Page page = Page.telling("abc");
        page.sign('a', firstU, 0, 5, firstSize);
        page.sign('b', secondU, 0, 5, secondSize);
        page.sign('c', 50, -5, 5, 10);
        return page.line(2);
    }

    /** "of these the least u": whose size tells what else is in the line. */
    private static void linesOfTheLeastU() {
        DUE.is("line: the earlier has the least u, and is great", thirdLine(0, 10, 1, 1), 0);
        DUE.is("line: the earlier has the least u, and is small", thirdLine(0, 1, 1, 10), 1);
        DUE.is("line: the later has the least u, and is great", thirdLine(1, 1, 0, 10), 0);
        DUE.is("line: the later has the least u, and is small", thirdLine(1, 10, 0, 1), 1);
    }

    /** "of these the least number". */
    private static void linesOfTheLeastNumber() {
        DUE.is("line: the least number, and great", thirdLine(0, 10, 0, 1), 0);
        DUE.is("line: the least number, and small", thirdLine(0, 1, 0, 10), 1);
    }

    /** "in the line they are by u, then by number", whatever their v. */
    private static void linesInOrder() {
        Page page = Page.telling("abcde");
        page.sign('d', 10, 0, 0, 10);
        page.sign('b', 0, 0, 0, 10);
        page.sign('e', 10, 5, 0, 10);
        page.sign('c', 0, 5, 0, 10);
        page.sign('a', -1, 2, 0, 10);
        DUE.reads("line: by u, then by number", page, "abcde");
    }

    /** "LINES 0, 1, ..: first of signs that are not turned, then of turned ones". */
    private static void linesOfTurnedSigns() {
        Page page = Page.telling("abc");
        page.sign('a', 0, 100, 5, 10);
        page.sign('b', 0, 0, 5, 10);
        page.turn(0, true);
        DUE.is("line: the turned one behind", page.line(0), 1);
        DUE.is("line: the other first", page.line(1), 0);
        page.turn(1, true);
        DUE.is("line: turned ones alone begin with 0", page.line(0), 0);
        DUE.is("line: both turned, in one line", page.line(1), 0);
        page.sign('c', 0, 0, 5, 10);
        DUE.is("line: at one place with a turned one", page.line(2), 0);
        DUE.is("line: and they are not in one line", page.line(1), 1);
    }

    /** Two signs with a gap between: 0 nothing, 1 a SPACE, 2 a cut is behind the first. */
    private static int behind(long width, int size, long gap, int nextSize, boolean turned) {
        Page page = Page.telling("ab");
        put(page, 'a', 0, 0, width, size, turned);
        put(page, 'b', width + gap, 0, 5, nextSize, turned);
        DUE.is("gap: one line", page.line(0), page.line(1));
        if (page.space(0)) {
            return 1;
        }
        return page.text().equals("ab") ? 0 : 2;
    }

    /** "Where the gap is three times its size or more, the line is CUT there". */
    private static void cutsByThreeSizes() {
        for (int size : new int[] {1, 2, 10, 11, 999, 1000}) {
            for (boolean turned : new boolean[] {false, true}) {
                DUE.is("cut: three times " + size, behind(1, size, 3L * size, size, turned), 2);
                DUE.is("cut: more than three times " + size, behind(1, size, 3L * size + 1, size, turned), 2);
                DUE.is("cut: less than three times " + size, behind(1, size, 3L * size - 1, size, turned), 1);
            }
        }
        DUE.is("cut: as far as can be", behind(0, 1000, 1000000, 1000, false), 2);
        DUE.is("cut: without a width", behind(0, 10, 30, 10, false), 2);
        DUE.is("cut: less, without a width", behind(0, 10, 29, 10, false), 0);
        DUE.is("cut: of a share below 250", behind(1000, 10, 30, 10, false), 2);
        DUE.is("cut: less, of a share below 250", behind(1000, 10, 29, 10, false), 0);
    }

    /** "its size": that of the sign before the gap. */
    private static void cutsByItsOwnSize() {
        DUE.is("cut: a small one before a great one", behind(5, 10, 30, 20, false), 2);
        DUE.is("cut: less, before a great one", behind(5, 10, 29, 20, false), 1);
        DUE.is("cut: a great one before a small one", behind(5, 20, 60, 10, false), 2);
        DUE.is("cut: less, before a small one", behind(5, 20, 59, 10, false), 1);
    }

    /** "more than its own u and width". */
    private static void gapsBehindWidths() {
        Page page = Page.telling("abc");
        page.sign('a', -7, 0, 4, 10);
        page.sign('b', -2, 0, 12, 10);
        page.sign('c', 12, 0, 4, 10);
        DUE.is("gap: 1 of 4", page.space(0) ? 1 : 0, 1);
        DUE.is("gap: 2 of 12", page.space(1) ? 1 : 0, 0);
        Page far = Page.telling("ab");
        far.sign('a', -1000000, 0, 1000000, 1000);
        far.sign('b', 2999, 0, 5, 1000);
        DUE.is("gap: behind the greatest width, one block", far.block(1), 0);
        far.sign('b', 1000000, 0, 5, 1000);
        DUE.is("gap: to the page's end, another block", far.block(2), 1);
    }

    /** "the next one's u in its line": not one of another line, not one behind the next. */
    private static void gapsToTheNext() {
        Page page = Page.telling("abc");
        page.sign('a', 0, 0, 4, 10);
        page.sign('b', 5, -6, 4, 10);
        DUE.is("gap: none to another line", page.space(0) ? 1 : 0, 0);
        page.sign('c', 9, 0, 4, 10);
        DUE.is("gap: over that of another line", page.space(0) ? 1 : 0, 1);
        page.sign('b', 4, 0, 1, 10);
        DUE.is("gap: none to the next", page.space(0) ? 1 : 0, 0);
        DUE.is("gap: behind the next", page.space(3) ? 1 : 0, 1);
        Page wide = Page.telling("abc");
        wide.sign('a', 0, 0, 100, 10);
        wide.sign('b', 2, 0, 4, 10);
        wide.sign('c', 8, 0, 4, 10);
        DUE.is("gap: below 0 behind a wide one", wide.space(0) ? 1 : 0, 0);
        DUE.is("gap: within a wide one", wide.space(1) ? 1 : 0, 1);
    }

    /** "if the gap is above 0". */
    private static void spacesAboveNothing() {
        for (boolean turned : new boolean[] {false, true}) {
            DUE.is("space: gap 0", behind(1, 10, 0, 10, turned), 0);
            DUE.is("space: gap 1", behind(1, 10, 1, 10, turned), 1);
            DUE.is("space: gap -1", behind(1, 10, -1, 10, turned), 0);
            DUE.is("space: gap -4 of 4", behind(4, 10, -4, 10, turned), 0);
        }
    }

    /** "SHARE(gap, width) is 250 or more", cut off before it is looked at. */
    private static void spacesByShares() {
        int[][] widthsAndLastGaps = {{4, 0}, {5, 1}, {7, 1}, {8, 1}, {9, 2}, {11, 2}, {12, 2}, {1000, 249},
            {1001, 250}, {4000, 999}};
        for (int[] row : widthsAndLastGaps) {
            DUE.is("space: too little of " + row[0], behind(row[0], 1000, row[1], 1000, false), 0);
            DUE.is("space: enough of " + row[0], behind(row[0], 1000, row[1] + 1, 1000, false), 1);
        }
        DUE.is("space: 2999 of 11996", behind(11996, 1000, 2999, 1000, false), 1);
        DUE.is("space: 2999 of 11997", behind(11997, 1000, 2999, 1000, false), 0);
        DUE.is("space: 2999 of 1000000", behind(1000000 - 2999, 1000, 2999, 1000, false), 0);
    }

    /** "without a width none". */
    private static void spacesWithoutAWidth() {
        DUE.is("space: of no width, gap 1", behind(0, 10, 1, 10, false), 0);
        DUE.is("space: of no width, gap 29", behind(0, 10, 29, 10, false), 0);
        DUE.is("space: of width 1, gap 29", behind(1, 10, 29, 10, false), 1);
    }

    /** "Else ... a SPACE": never where the line is cut. */
    private static void spacesNotAtCuts() {
        Page page = Page.telling("ahb");
        page.sign('h', 0, 12, 100, 10);
        page.sign('a', 0, 0, 5, 10);
        page.sign('b', 35, 0, 5, 10);
        DUE.is("cut: no space", page.space(1) ? 1 : 0, 0);
        DUE.is("cut: though one block", page.block(2), page.block(1));
        DUE.reads("cut: text", page, "h a b");
    }
}
