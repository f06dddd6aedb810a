/**
 * The later Terms, sentence by sentence: segments, blocks, reading order, the text and words,
 * with the last value that fits and the first that does not.
 */
public final class TextEdgesTest {
    private static final Due DUE = new Due();

    public static void main(String[] args) {
        segmentsReachToTheGreatestRight();
        segmentsReachToTheGreatestTop();
        segmentsReachToTheLeastBottom();
        acrossByTwiceTheSize();
        acrossByTheGreatestSize();
        acrossBeyondAllRights();
        downByOnceTheSize();
        downByTheGreatestSize();
        downBelowAllBottoms();
        acrossGoesBeforeDown();
        acrossGoesFirstWithinParts();
        partsHaveSizesOfTheirOwn();
        downByTheWidestGap();
        downByTheFirstOfTheWidest();
        leftAndUpperOnesComeFirst();
        blocksOfTurnedSegmentsComeLast();
        blocksOfNothingToPart();
        segmentsOfABlockAreByLines();
        tagsGoFirst();
        tagsGoBeforeBlocks();
        oneTagIsInThisOrder();
        nothingOrBlankWithinASegment();
        feedWhereOneIsLeftOut();
        blankBetweenSegments();
        feedBetweenBlocks();
        feedBetweenTags();
        joinedBySmallLetters();
        joinedByHyphensAlone();
        joinedByTheFirstAndLastLetters();
        joinedOverSegmentsAlone();
        joinedAgainAndAgain();
        joinedIsGone();
        wordsAreRows();
        wordsOfBlanksAlone();
        wordsOfOtherLetters();
        DUE.end();
    }

    private static void blocksAre(String what, Page page, int... want) {
        for (int i = 0; i < want.length; i++) {
            DUE.is(what + ": block of " + i, page.block(i), want[i]);
        }
    }

    /** One line of two signs that end at 50, and a sign below it behind a gap. */
    private static Page besideTwo(long firstWidth, long secondWidth, long gap) {
        Page page = Page.telling("abc");
        page.sign('a', 0, 0, firstWidth, 10);
        page.sign('b', 5, 0, secondWidth, 10);
        page.sign('c', 50 + gap, -12, 5, 10);
        return page;
    }

    /** "its RIGHT the greatest u and width". */
    private static void segmentsReachToTheGreatestRight() {
        blocksAre("right: of the first sign", besideTwo(50, 5, 19), 0, 0, 0);
        blocksAre("right: of the first sign, parted", besideTwo(50, 5, 20), 0, 0, 1);
        blocksAre("right: of the last sign", besideTwo(5, 45, 19), 0, 0, 0);
        blocksAre("right: of the last sign, parted", besideTwo(5, 45, 20), 0, 0, 1);
    }

    private static Page belowTwo(long firstV, int firstSize, long secondV, int secondSize) {
        Page page = Page.telling("abc");
        page.sign('a', 0, 0, 5, 10);
        page.sign('b', 0, firstV, 5, firstSize);
        page.sign('c', 5, secondV, 5, secondSize);
        DUE.is("top: one line", page.line(1), page.line(2));
        return page;
    }

    /** "its TOP the greatest v and size". */
    private static void segmentsReachToTheGreatestTop() {
        blocksAre("top: of the last sign", belowTwo(-19, 5, -19, 10), 0, 0, 0);
        blocksAre("top: of the last sign, parted", belowTwo(-20, 5, -20, 10), 0, 1, 1);
        blocksAre("top: of the first sign", belowTwo(-19, 10, -19, 5), 0, 0, 0);
        blocksAre("top: of the first sign, parted", belowTwo(-20, 10, -20, 5), 0, 1, 1);
        blocksAre("top: of the higher sign", belowTwo(-17, 8, -18, 8), 0, 0, 0);
        blocksAre("top: of the lower but greater sign", belowTwo(-17, 5, -19, 10), 0, 0, 0);
        blocksAre("top: of the lower one, parted", belowTwo(-18, 5, -20, 10), 0, 1, 1);
    }

    private static Page underTwo(long firstV, long secondV, long top) {
        Page page = Page.telling("abc");
        page.sign('a', 0, firstV, 5, 10);
        page.sign('b', 5, secondV, 5, 10);
        page.sign('c', 0, top - 10, 5, 10);
        DUE.is("bottom: one line", page.line(0), page.line(1));
        return page;
    }

    /** "its BOTTOM the least v". */
    private static void segmentsReachToTheLeastBottom() {
        blocksAre("bottom: of the last sign", underTwo(0, -5, -14), 0, 0, 0);
        blocksAre("bottom: of the last sign, parted", underTwo(0, -5, -15), 0, 0, 1);
        blocksAre("bottom: of the first sign", underTwo(-5, 0, -14), 0, 0, 0);
        blocksAre("bottom: of the first sign, parted", underTwo(-5, 0, -15), 0, 0, 1);
    }

    /** Two signs, the second one's left behind the first one's right by a gap, its line next below. */
    private static Page beside(int size, int otherSize, long gap, boolean turned) {
        Page page = Page.telling("ab");
        int below = size / 2 + 1;
        page.sign('a', 0, 0, 5, size);
        page.sign('b', turned ? below : 5 + gap, turned ? 5 + gap : -below, 5, otherSize);
        if (turned) {
            page.turn(0, true);
            page.turn(1, true);
        }
        return page;
    }

    /** "if it is twice the greatest size of all their signs or more". */
    private static void acrossByTwiceTheSize() {
        for (int size : new int[] {1, 2, 10, 11, 1000}) {
            for (boolean turned : new boolean[] {false, true}) {
                blocksAre("across: twice " + size, beside(size, size, 2L * size, turned), 0, 1);
                blocksAre("across: less than twice " + size, beside(size, size, 2L * size - 1, turned), 0, 0);
            }
        }
        blocksAre("across: gap 0", beside(1, 1, 0, false), 0, 0);
        blocksAre("across: gap 1", beside(1, 1, 1, false), 0, 0);
        blocksAre("across: overlapping", beside(1, 1, -3, false), 0, 0);
        DUE.reads("across: parted", beside(10, 10, 20, false), "a\nb");
        DUE.reads("across: not parted", beside(10, 10, 19, false), "a b");
    }

    /** "the greatest size of all their signs": of the one before and the one behind the gap. */
    private static void acrossByTheGreatestSize() {
        blocksAre("across: the first is greater", beside(20, 10, 39, false), 0, 0);
        blocksAre("across: the first is greater, parted", beside(20, 10, 40, false), 0, 1);
        blocksAre("across: the second is greater", beside(10, 20, 39, false), 0, 0);
        blocksAre("across: the second is greater, parted", beside(10, 20, 40, false), 0, 1);
        Page page = Page.telling("abc");
        page.sign('a', 0, 0, 5, 10);
        page.sign('c', 5, 0, 5, 11);
        page.sign('b', 31, -12, 5, 10);
        blocksAre("across: of a segment's last sign", page, 0, 0, 0);
        page.sign('b', 32, -24, 5, 10);
        blocksAre("across: one gap only counts", page, 0, 0, 0, 0);
    }

    /** "wherever a left is beyond all rights of those before (in order of lefts)". */
    private static void acrossBeyondAllRights() {
        Page page = Page.telling("abcd");
        page.sign('a', 0, 0, 100, 10);
        page.sign('b', 1, -12, 5, 10);
        page.sign('c', 119, -24, 5, 10);
        blocksAre("across: the widest one ends later", page, 0, 0, 0);
        Page parted = Page.telling("abcd");
        parted.sign('c', 120, 0, 5, 10);
        parted.sign('a', 0, -12, 100, 10);
        parted.sign('b', 1, -24, 5, 10);
        blocksAre("across: behind the widest one", parted, 1, 0, 0);
        parted.sign('d', 99, -36, 5, 10);
        blocksAre("across: a gap is filled", parted, 0, 0, 0, 0);
    }

    /** Two lines of one sign, the lower one's top under the upper one's bottom by a gap. */
    private static Page below(int size, int lowerSize, long gap, boolean turned) {
        Page page = Page.telling("ab");
        long v = -(gap + lowerSize);
        page.sign('a', 0, 0, 5, size);
        page.sign('b', turned ? -v : 0, turned ? 0 : v, 5, lowerSize);
        if (turned) {
            page.turn(0, true);
            page.turn(1, true);
        }
        return page;
    }

    /** "a gap of once the greatest size". */
    private static void downByOnceTheSize() {
        for (int size : new int[] {1, 2, 10, 11, 1000}) {
            for (boolean turned : new boolean[] {false, true}) {
                blocksAre("down: once " + size, below(size, size, size, turned), 0, 1);
                blocksAre("down: less than once " + size, below(size, size, size - 1, turned), 0, 0);
            }
        }
        blocksAre("down: gap 0", below(1, 1, 0, false), 0, 0);
        DUE.reads("down: parted", below(10, 10, 10, false), "a\nb");
        DUE.reads("down: not parted", below(10, 10, 9, false), "a b");
    }

    private static void downByTheGreatestSize() {
        blocksAre("down: the upper is greater", below(20, 10, 19, false), 0, 0);
        blocksAre("down: the upper is greater, parted", below(20, 10, 20, false), 0, 1);
        blocksAre("down: the lower is greater", below(10, 20, 19, false), 0, 0);
        blocksAre("down: the lower is greater, parted", below(10, 20, 20, false), 0, 1);
    }

    /** A top below all bottoms of those before, in order of tops: great signs reach up and down. */
    private static void downBelowAllBottoms() {
        Page page = Page.telling("abcd");
        page.sign('a', 0, 75, 5, 20);
        page.sign('b', 5, 0, 5, 100);
        page.sign('c', 10, -50, 5, 10);
        page.sign('d', 0, -60, 5, 35);
        blocksAre("down: one before the last ends later", page, 0, 0, 0, 0);
        Page order = Page.telling("abc");
        order.sign('a', 0, 0, 5, 10);
        order.sign('b', 5, -110, 5, 10);
        blocksAre("down: a gap of 100", order, 0, 1);
        order.sign('c', 10, -120, 5, 100);
        blocksAre("down: in order of tops, not of lines", order, 0, 0, 0);
    }

    /** "Otherwise likewise from top to bottom": only where nothing parts from left to right. */
    private static void acrossGoesBeforeDown() {
        Page page = Page.telling("abcd");
        page.sign('a', 0, 0, 5, 10);
        page.sign('b', 25, 0, 5, 10);
        page.sign('c', 0, -500, 5, 10);
        page.sign('d', 25, -500, 5, 10);
        DUE.reads("across: a space is no gap between segments", page, "a b\nc d");
        Page cut = Page.telling("abcd");
        cut.sign('a', 0, 0, 5, 10);
        cut.sign('b', 35, 0, 5, 10);
        cut.sign('c', 0, -500, 5, 10);
        cut.sign('d', 35, -500, 5, 10);
        DUE.reads("across: before a far wider gap down", cut, "a\nc\nb\nd");
        blocksAre("across: before a far wider gap down", cut, 0, 2, 1, 3);
    }

    /** "the former are parted, then the latter": from left to right first again. */
    private static void acrossGoesFirstWithinParts() {
        Page page = Page.telling("habcd");
        page.sign('h', 0, 0, 60, 10);
        page.sign('a', 0, -20, 5, 10);
        page.sign('b', 40, -20, 5, 10);
        page.sign('c', 0, -40, 5, 10);
        page.sign('d', 40, -40, 5, 10);
        blocksAre("within: heading, then columns", page, 0, 1, 3, 2, 4);
        DUE.reads("within: text", page, "h\na\nc\nb\nd");
    }

    /** "the greatest size of all their signs": of those that are parted, not of all the page. */
    private static void partsHaveSizesOfTheirOwn() {
        Page across = Page.telling("hab");
        across.sign('h', 0, 0, 5, 30);
        across.sign('a', 0, -70, 5, 10);
        across.sign('b', 25, -82, 5, 10);
        blocksAre("within: across by the part's size", across, 0, 1, 2);
        Page down = Page.telling("hab");
        down.sign('h', 0, 0, 5, 30);
        down.sign('a', 0, -70, 5, 10);
        down.sign('b', 0, -90, 5, 10);
        blocksAre("within: down by the part's size", down, 0, 1, 2);
        Page great = Page.telling("hab");
        great.sign('h', 0, 0, 5, 30);
        great.sign('a', 0, -39, 5, 10);
        great.sign('b', 0, -59, 5, 10);
        blocksAre("within: not parted by all their size", great, 0, 0, 0);
        Page turned = Page.telling("ab");
        turned.sign('h', 0, 0, 5, 1000);
        turned.sign('a', 0, 0, 5, 10);
        turned.sign('b', 20, 0, 5, 10);
        turned.turn(1, true);
        turned.turn(2, true);
        blocksAre("within: turned ones by their own size", turned, 0, 1, 2);
    }

    /** A heading over two rows of two columns: which gap parts first tells what comes next. */
    private static Page headingAndRows(long upperGap, long lowerGap) {
        Page page = Page.telling("habcd");
        long second = -upperGap - 10;
        long third = second - lowerGap - 10;
        page.sign('h', 0, 0, 60, 10);
        page.sign('a', 0, second, 5, 10);
        page.sign('b', 50, second, 5, 10);
        page.sign('c', 0, third, 5, 10);
        page.sign('d', 50, third, 5, 10);
        return page;
    }

    /** "the widest one ... parts those before it from those behind it". */
    private static void downByTheWidestGap() {
        DUE.reads("widest: the upper gap by 1", headingAndRows(31, 30), "h\na\nc\nb\nd");
        DUE.reads("widest: the lower gap by 1", headingAndRows(30, 31), "h\na\nb\nc\nd");
        DUE.reads("widest: the upper gap alone is enough", headingAndRows(10, 9), "h\na c\nb d");
        DUE.reads("widest: the lower gap alone is enough", headingAndRows(9, 10), "h a b\nc\nd");
        DUE.reads("widest: none is enough", headingAndRows(9, 9), "h a b c d");
    }

    /** "of these the first". */
    private static void downByTheFirstOfTheWidest() {
        DUE.reads("widest: two of one width", headingAndRows(30, 30), "h\na\nc\nb\nd");
        DUE.reads("widest: two of the least width", headingAndRows(10, 10), "h\na\nc\nb\nd");
    }

    private static void leftAndUpperOnesComeFirst() {
        Page across = Page.telling("ab");
        across.sign('b', 100, 0, 5, 10);
        across.sign('a', 0, -500, 5, 10);
        blocksAre("first: the left one, though lower", across, 1, 0);
        Page down = Page.telling("ab");
        down.sign('b', 0, -500, 5, 10);
        down.sign('a', 20, 0, 5, 10);
        blocksAre("first: the upper one, though right", down, 1, 0);
        Page ends = Page.telling("abcd");
        ends.sign('d', 1000000, -1000000, 1000000, 1000);
        ends.sign('c', 1000000, 1000000, 1000000, 1000);
        ends.sign('b', -1000000, -1000000, 1000000, 1000);
        ends.sign('a', -1000000, 1000000, 1000000, 1000);
        blocksAre("first: at the page's ends", ends, 3, 2, 1, 0);
    }

    /** "segments that are not turned, then the turned ones". */
    private static void blocksOfTurnedSegmentsComeLast() {
        Page page = Page.telling("abcd");
        page.sign('a', -500, 500, 5, 10);
        page.sign('b', 0, 0, 5, 10);
        page.sign('c', 0, 0, 5, 10);
        page.sign('d', 500, -500, 5, 10);
        page.turn(0, true);
        page.turn(2, true);
        blocksAre("turned: behind the others", page, 3, 0, 2, 1);
        DUE.reads("turned: text", page, "b\nd\nc\na");
        page.turn(1, true);
        page.turn(3, true);
        blocksAre("turned: alone, by (u, v)", page, 2, 1, 1, 0);
        Page none = Page.telling("ab");
        none.sign('a', 0, 0, 5, 10);
        none.sign('b', 5, 0, 5, 10);
        none.turn(1, true);
        blocksAre("turned: never in one block", none, 0, 1);
        DUE.reads("turned: 10 between", none, "a\nb");
    }

    /** "Otherwise they are a block": one segment, or all signs at one place. */
    private static void blocksOfNothingToPart() {
        Page one = Page.telling("a");
        one.sign('a', 0, 0, 0, 1);
        blocksAre("block: one sign", one, 0);
        Page same = Page.telling("abc");
        same.sign('a', 0, 0, 0, 1);
        same.sign('b', 0, 0, 0, 1);
        same.sign('c', 0, 0, 0, 1);
        blocksAre("block: three at one place", same, 0, 0, 0);
        DUE.reads("block: three at one place", same, "abc");
    }

    /** "in a block segments are by lines, then from left to right". */
    private static void segmentsOfABlockAreByLines() {
        Page page = Page.telling("ab");
        page.sign('b', 0, -12, 25, 10);
        page.sign('a', 40, 0, 5, 10);
        DUE.reads("segments: by lines, not by lefts", page, "a b");
        Page row = Page.telling("habc");
        row.sign('c', 80, -12, 5, 10);
        row.sign('b', 40, -12, 5, 10);
        row.sign('a', 0, -12, 5, 10);
        row.sign('h', 0, 0, 85, 10);
        DUE.reads("segments: of one line by lefts", row, "h a b c");
        Page tops = Page.telling("abc");
        tops.sign('b', 0, -6, 5, 30);
        tops.sign('a', 5, 0, 5, 10);
        DUE.reads("segments: by lines, not by tops", tops, "a b");
    }

    private static Page rowsOf(String codes) {
        Page page = Page.telling(codes);
        for (int i = 0; i < codes.length(); i++) {
            page.sign(codes.charAt(i), 0, -12L * i, 5, 10);
        }
        return page;
    }

    /** "those with a TAG before all others, by tags (0 the first)". */
    private static void tagsGoFirst() {
        Page page = rowsOf("abcd");
        page.tag(3, 100);
        DUE.reads("tag: 100 is before none", page, "d\na b c");
        page.tag(2, 99);
        DUE.reads("tag: 99 before 100", page, "c\nd\na b");
        page.tag(1, 0);
        DUE.reads("tag: 0 the first", page, "b\nc\nd\na");
        page.tag(0, 1);
        DUE.reads("tag: 1 behind 0", page, "b\na\nc\nd");
        page.tag(1, -1);
        DUE.reads("tag: none behind all", page, "a\nc\nd\nb");
    }

    private static void tagsGoBeforeBlocks() {
        Page page = Page.telling("abc");
        page.sign('a', 0, 0, 5, 10);
        page.sign('b', 0, -500, 5, 10);
        page.sign('c', 0, -1000, 5, 10);
        page.turn(2, true);
        page.tag(2, 5);
        page.tag(1, 6);
        DUE.reads("tag: of the last block before the first", page, "c\nb\na");
        blocksAre("tag: blocks are as they were", page, 0, 1, 2);
        DUE.is("tag: lines are as they were", page.line(2), 2);
    }

    /** "of one tag in this order". */
    private static void oneTagIsInThisOrder() {
        Page page = rowsOf("abcd");
        page.tag(3, 7);
        page.tag(1, 7);
        DUE.reads("tag: of one tag by lines", page, "b d\na c");
        Page row = Page.telling("ab");
        row.sign('b', 5, 0, 5, 10);
        row.sign('a', 0, 0, 5, 10);
        row.tag(0, 7);
        row.tag(1, 7);
        DUE.reads("tag: of one tag by u", row, "ab");
    }

    /** "nothing, or 32 (behind a SPACE), if the later one is the next in the same segment". */
    private static void nothingOrBlankWithinASegment() {
        Page page = Page.telling("ab-");
        page.sign('-', 0, 0, 8, 10);
        page.sign('a', 9, 0, 8, 10);
        page.sign('-', 19, 0, 8, 10);
        page.sign('b', 27, 0, 8, 10);
        DUE.reads("within a segment: nothing is joined", page, "-a -b");
        page.tag(0, 1);
        page.tag(1, 2);
        page.tag(2, 3);
        page.tag(3, 4);
        DUE.reads("within a segment: the next, of another tag", page, "-a -b");
        page.tag(2, -1);
        page.tag(3, -1);
        DUE.reads("within a segment: the next, behind a tag", page, "-a -b");
        page.tag(1, 1);
        DUE.reads("within a segment: the next, of one tag", page, "-a -b");
    }

    /** "otherwise 10": of one segment, but not the next. */
    private static void feedWhereOneIsLeftOut() {
        Page page = Page.telling("abc");
        page.sign('a', 0, 0, 8, 10);
        page.sign('b', 10, 0, 8, 10);
        page.sign('c', 20, 0, 8, 10);
        page.tag(1, 0);
        DUE.reads("left out: 10 on both sides", page, "b\na\nc");
        page.tag(1, -1);
        page.tag(2, 0);
        DUE.reads("left out: the later one first", page, "c\na b");
        page.tag(0, 0);
        DUE.reads("left out: of one tag", page, "a\nc\nb");
        Page hyphen = Page.telling("-xa");
        hyphen.sign('-', 0, 0, 8, 10);
        hyphen.sign('x', 8, 0, 8, 10);
        hyphen.sign('a', 16, 0, 8, 10);
        hyphen.tag(1, 0);
        DUE.reads("left out: not joined", hyphen, "x\n-\na");
        hyphen.tag(1, -1);
        hyphen.tag(0, 3);
        hyphen.tag(2, 3);
        DUE.reads("left out: not joined, of one tag", hyphen, "-\na\nx");
        Page back = Page.telling("ab");
        back.sign('a', 0, 0, 5, 10);
        back.sign('b', 5, 0, 5, 10);
        back.tag(1, 0);
        DUE.reads("left out: the one before it is not the next", back, "b\na");
    }

    /** "if both are of one block, in two segments ... else 32 comes between". */
    private static void blankBetweenSegments() {
        DUE.reads("segments: of two lines", rowsOf("ab"), "a b");
        Page page = Page.telling("hab");
        page.sign('h', 0, 0, 60, 10);
        page.sign('a', 0, -12, 5, 10);
        page.sign('b', 35, -12, 5, 10);
        DUE.reads("segments: of one line", page, "h a b");
        DUE.is("segments: of no sign", page.from(3), -1);
    }

    private static void feedBetweenBlocks() {
        Page page = rowsOf("ab");
        page.sign('a', 0, -100, 5, 10);
        DUE.reads("blocks: 10 between", page, "a b\na");
        page.tag(1, 3);
        page.tag(2, 3);
        DUE.reads("blocks: 10 between, of one tag", page, "b\na\na");
    }

    /** "of the same tag (or both without)". */
    private static void feedBetweenTags() {
        int[][] tags = {{-1, -1}, {0, 0}, {100, 100}, {0, 1}, {99, 100}, {0, -1}, {100, -1}};
        for (int[] pair : tags) {
            Page page = rowsOf("ab");
            page.tag(0, pair[0]);
            page.tag(1, pair[1]);
            DUE.reads("tags " + pair[0] + ", " + pair[1], page, pair[0] == pair[1] ? "a b" : "a\nb");
        }
    }

    private static Page lettersInRows(int first, int second, int later, int laterSecond) {
        Page page = new Page();
        page.map(0, 1, first, second);
        page.map(0, 2, later, laterSecond);
        page.sign(1, 0, 0, 5, 10);
        page.sign(2, 0, -12, 5, 10);
        return page;
    }

    /** "the later sign's first letter is 97 .. 122". */
    private static void joinedBySmallLetters() {
        for (int later : new int[] {97, 98, 121, 122}) {
            DUE.reads("joined: " + later, lettersInRows('x', 45, later, 0), "x" + (char) later);
        }
        for (int later : new int[] {96, 123, 65, 90, 1, 45, 48, 10, 32, 225, 65533, 65535}) {
            DUE.reads("not joined: " + later, lettersInRows('x', 45, later, 0), "x- " + (char) later);
        }
    }

    /** "if the text ends with 45". */
    private static void joinedByHyphensAlone() {
        for (int last : new int[] {44, 46, 32, 10, 173, 8208, 8722, 'x'}) {
            DUE.reads("not joined behind " + last, lettersInRows('x', last, 'a', 0), "x" + (char) last + " a");
        }
    }

    private static void joinedByTheFirstAndLastLetters() {
        DUE.reads("joined: a hyphen alone", lettersInRows(45, 0, 'a', 0), "a");
        DUE.reads("joined: only one of two hyphens", lettersInRows(45, 45, 'a', 0), "-a");
        DUE.reads("not joined: the hyphen is not the last", lettersInRows(45, 'x', 'a', 0), "-x a");
        DUE.reads("joined: by the first of two letters", lettersInRows('x', 45, 'a', 'B'), "xaB");
        DUE.reads("not joined: by the second of two", lettersInRows('x', 45, 'A', 'b'), "x- Ab");
    }

    /** "if both are of one block, in two segments, and of the same tag". */
    private static void joinedOverSegmentsAlone() {
        Page row = Page.telling("ha-");
        row.sign('h', 0, 0, 60, 10);
        row.sign('-', 0, -12, 5, 10);
        row.sign('a', 35, -12, 5, 10);
        DUE.reads("joined: two segments of one line", row, "h a");
        Page blocks = Page.telling("a-");
        blocks.sign('-', 0, 0, 5, 10);
        blocks.sign('a', 0, -20, 5, 10);
        DUE.reads("not joined: two blocks", blocks, "-\na");
        Page tags = rowsOf("-a");
        tags.tag(0, 0);
        DUE.reads("not joined: a tag and none", tags, "-\na");
        tags.tag(1, 1);
        DUE.reads("not joined: two tags", tags, "-\na");
        tags.tag(1, 0);
        DUE.reads("joined: one tag", tags, "a");
        Page left = Page.telling("xa-");
        left.sign('-', 0, 0, 5, 10);
        left.sign('x', 5, 0, 5, 10);
        left.sign('a', 0, -12, 5, 10);
        DUE.reads("not joined: the hyphen is not before it", left, "-x a");
        left.tag(1, 0);
        DUE.reads("joined: since the one between is tagged", left, "x\na");
    }

    private static void joinedAgainAndAgain() {
        Page page = new Page();
        page.map(0, 1, 'x', 45);
        for (int i = 0; i < 4; i++) {
            page.sign(1, 0, -12L * i, 5, 10);
        }
        DUE.reads("joined: line by line", page, "xxxx-");
        page.map(0, 1, 45, 45);
        DUE.reads("joined: none of hyphens only", page, "-- -- -- --");
        Page empty = rowsOf("-a-b");
        DUE.reads("joined: all hyphens go", empty, "a b");
    }

    /** "that 45 goes": it is no letter of the text, nor is anything in its stead. */
    private static void joinedIsGone() {
        Page page = Page.telling("xa-");
        page.sign('x', 0, 0, 5, 10);
        page.sign('-', 5, 0, 5, 10);
        page.sign('a', 0, -12, 5, 10);
        DUE.is("joined: length", page.length(), 2);
        DUE.is("joined: from", page.from(1), 2);
        DUE.is("joined: one word", page.word(-1, 0), 1);
        DUE.is("joined: of two letters", page.word(0, 1), 2);
        DUE.is("joined: its sign's line", page.line(1), 0);
        page.find('x');
        page.find('a');
        DUE.is("joined: found over lines", page.find(0), 1);
        page.find(45);
        DUE.is("joined: no hyphen is found", page.find(0), 0);
        page.map(0, 'a', 'A', 0);
        DUE.reads("joined: no more", page, "x- A");
    }

    private static void wordsAre(String letters, int... beginsAndLengths) {
        Page page = new Page();
        for (int i = 0; i < letters.length(); i++) {
            page.map(0, i, letters.charAt(i), 0);
            page.sign(i, i * 5L, 0, 5, 10);
        }
        String what = "words of '" + letters.replace('\n', '|') + "'";
        DUE.is(what, page.word(-1, 0), beginsAndLengths.length / 2);
        for (int i = 0; i < beginsAndLengths.length / 2; i++) {
            DUE.is(what + ": begins " + i, page.word(i, 0), beginsAndLengths[2 * i]);
            DUE.is(what + ": has " + i, page.word(i, 1), beginsAndLengths[2 * i + 1]);
        }
        DUE.fails(what + ": behind", IndexOutOfBoundsException.class,
                () -> page.word(beginsAndLengths.length / 2, 0));
    }

    /** "WORDS of the text are rows of letters other than 10 and 32". */
    private static void wordsAreRows() {
        wordsAre("a", 0, 1);
        wordsAre("abc", 0, 3);
        wordsAre(" a", 1, 1);
        wordsAre("a ", 0, 1);
        wordsAre("\na", 1, 1);
        wordsAre("a\n", 0, 1);
        wordsAre("a b", 0, 1, 2, 1);
        wordsAre("a\nb", 0, 1, 2, 1);
        wordsAre("ab \n  cde\n\nf ", 0, 2, 6, 3, 11, 1);
    }

    private static void wordsOfBlanksAlone() {
        wordsAre(" ");
        wordsAre("\n");
        wordsAre(" \n \n");
        wordsAre("");
    }

    private static void wordsOfOtherLetters() {
        wordsAre("\t", 0, 1);
        for (int other : new int[] {1, 9, 11, 13, 31, 33, 45, 160, 8232, 12288, 65533, 65535}) {
            wordsAre("a" + (char) other + "b", 0, 3);
        }
    }
}
