import java.util.NoSuchElementException;

/**
 * What each call takes and refuses, sentence by sentence of the document's promises: the last
 * value that is taken and the first that is refused, on either side.
 */
public final class CallEdgesTest {
    private static final Due DUE = new Due();
    private static final Class<IllegalArgumentException> ILLEGAL = IllegalArgumentException.class;
    private static final Class<UnsupportedOperationException> FULL = UnsupportedOperationException.class;
    private static final Class<NoSuchElementException> NO_SIGN = NoSuchElementException.class;
    private static final Class<IndexOutOfBoundsException> OUTSIDE = IndexOutOfBoundsException.class;
    private static final int[] FAR_OUTSIDE = {-2, 1000, 65536, Integer.MAX_VALUE, Integer.MIN_VALUE};

    public static void main(String[] args) {
        newObjectHasNoSigns();
        newObjectTellsNoLetters();
        signTakesCodes();
        signTakesPlaces();
        signTakesWidths();
        signTakesSizes();
        signTakesTwoHundred();
        signNamesIllegalFirst();
        turnTellsWhatItWas();
        signsThatAreNotThere();
        mapTakesKindsAndCodes();
        mapTakesLetters();
        mapTellsHowMany();
        mapTellsNoneAnyMore();
        mapNamesOutsideFirst();
        tagTakesTags();
        tagNamesNoSignFirst();
        letterAndFromWithinTheText();
        fromIsNoneBetween();
        doublesAreInNoLineOrBlock();
        twiceTellsTheSign();
        spaceIsToldOfTheLastAndOfDoubles();
        shareOfNoWidth();
        shareIsCutOff();
        shareIsAsLongs();
        wordsFromMinusOneOn();
        wordTellsTwoThings();
        findTakesLetters();
        findTakesTwenty();
        findNamesIllegalFirst();
        findOfNoLetters();
        findSeesTenAsBlank();
        findAtBothEnds();
        foundOfTheLatest();
        foundBeforeAnySearch();
        areaEndsWithIt();
        areaOfTheWholeAndOfNothing();
        areaIsByPlaces();
        areaCountsLetters();
        DUE.end();
    }

    private static Page twoSigns() {
        Page page = Page.telling("ab");
        page.sign('a', 0, 0, 5, 10);
        page.sign('b', 5, 0, 5, 10);
        return page;
    }

    /** Promise 1: "No signs, no letters are told." */
    private static void newObjectHasNoSigns() {
        Page page = new Page();
        DUE.fails("new: line", NO_SIGN, () -> page.line(0));
        DUE.fails("new: block", NO_SIGN, () -> page.block(0));
        DUE.fails("new: twice", NO_SIGN, () -> page.twice(0));
        DUE.fails("new: space", NO_SIGN, () -> page.space(0) ? 1 : 0);
        DUE.fails("new: turn", NO_SIGN, () -> page.turn(0, false));
        DUE.fails("new: tag", NO_SIGN, () -> page.tag(0, -1));
        DUE.is("new: area", page.area(Long.MIN_VALUE, Long.MIN_VALUE, Long.MAX_VALUE, Long.MAX_VALUE), 0);
        DUE.is("new: the first sign", page.sign(0, 0, 0, 0, 1), 0);
        DUE.is("new: not turned", page.turn(0, false), 0);
        DUE.is("new: without a tag", page.tag(0, -1), -1);
    }

    private static void newObjectTellsNoLetters() {
        Page page = new Page();
        DUE.is("new: length", page.length(), 0);
        DUE.fails("new: letter", OUTSIDE, () -> page.letter(0));
        DUE.fails("new: from", OUTSIDE, () -> page.from(0));
        DUE.is("new: words", page.word(-1, 0), 0);
        DUE.fails("new: word", OUTSIDE, () -> page.word(0, 0));
        DUE.is("new: nothing is sought", page.find(0), 0);
        DUE.fails("new: found", OUTSIDE, () -> page.found(0));
        DUE.is("new: the first letter that is sought", page.find(1), 1);
        for (int kind = 0; kind < 4; kind++) {
            DUE.is("new: map " + kind + " tells code 0", page.map(kind, 0, 0, 0), 0);
            DUE.is("new: map " + kind + " tells code 255", page.map(kind, 255, 0, 0), 0);
        }
    }

    /** Promise 2: "IllegalArgumentException when the code is not 0 .. 255". */
    private static void signTakesCodes() {
        Page page = new Page();
        for (int code : new int[] {-1, 256, -256, 1000, Integer.MIN_VALUE, Integer.MAX_VALUE}) {
            DUE.fails("sign: code " + code, ILLEGAL, () -> page.sign(code, 0, 0, 0, 1));
        }
        DUE.is("sign: code 0", page.sign(0, 0, 0, 0, 1), 0);
        DUE.is("sign: code 255", page.sign(255, 0, 0, 0, 1), 1);
    }

    /** "x or y not -1000000 .. 1000000". */
    private static void signTakesPlaces() {
        Page page = new Page();
        long[] refused = {-1000001, 1000001, Long.MIN_VALUE, Long.MAX_VALUE, 1L << 32, (1L << 32) - 1};
        for (long far : refused) {
            DUE.fails("sign: x " + far, ILLEGAL, () -> page.sign(0, far, 0, 0, 1));
            DUE.fails("sign: y " + far, ILLEGAL, () -> page.sign(0, 0, far, 0, 1));
        }
        DUE.is("sign: least x", page.sign(0, -1000000, 0, 0, 1), 0);
        DUE.is("sign: greatest x", page.sign(0, 1000000, 0, 0, 1), 1);
        DUE.is("sign: least y", page.sign(0, 0, -1000000, 0, 1), 2);
        DUE.is("sign: greatest y", page.sign(0, 0, 1000000, 0, 1), 3);
        DUE.is("sign: it lies there", page.area(-1000000, 0, -1000000, 0), 1);
        DUE.is("sign: it lies up there", page.area(0, 1000000, 0, 1000000), 1);
    }

    /** "the width not 0 .. 1000000". */
    private static void signTakesWidths() {
        Page page = new Page();
        long[] refused = {-1, 1000001, Long.MIN_VALUE, Long.MAX_VALUE, 1L << 32, -(1L << 32)};
        for (long width : refused) {
            DUE.fails("sign: width " + width, ILLEGAL, () -> page.sign(0, 0, 0, width, 1));
        }
        DUE.is("sign: width 0", page.sign(0, 0, 0, 0, 1), 0);
        DUE.is("sign: width 1000000", page.sign(0, 9, 9, 1000000, 1), 1);
    }

    /** "the size not 1 .. 1000". */
    private static void signTakesSizes() {
        Page page = new Page();
        for (int size : new int[] {0, -1, 1001, Integer.MIN_VALUE, Integer.MAX_VALUE}) {
            DUE.fails("sign: size " + size, ILLEGAL, () -> page.sign(0, 0, 0, 0, size));
        }
        DUE.is("sign: size 1", page.sign(0, 0, 0, 0, 1), 0);
        DUE.is("sign: size 1000", page.sign(0, 9, 9, 0, 1000), 1);
    }

    /** "UnsupportedOperationException when there are 200"; doubles are signs, too. */
    private static void signTakesTwoHundred() {
        Page page = new Page();
        for (int i = 0; i < 199; i++) {
            page.sign(0, 0, 0, 0, 1);
        }
        DUE.is("sign: the 200th", page.sign(255, 1000000, -1000000, 1000000, 1000), 199);
        DUE.fails("sign: the 201st", FULL, () -> page.sign(0, 0, 0, 0, 1));
        DUE.fails("sign: the 201st again", FULL, () -> page.sign(255, -1000000, 1000000, 1000000, 1000));
        DUE.fails("sign: there is no sign 200", NO_SIGN, () -> page.line(200));
        DUE.is("sign: there is sign 199", page.line(199), 1);
    }

    /** "where several exceptions that a call names fit, it is the one that it names first". */
    private static void signNamesIllegalFirst() {
        Page page = new Page();
        for (int i = 0; i < 200; i++) {
            page.sign(i, i * 10L, 0, 5, 10);
        }
        DUE.fails("sign: full, and the code", ILLEGAL, () -> page.sign(256, 0, 0, 0, 1));
        DUE.fails("sign: full, and x", ILLEGAL, () -> page.sign(0, 1000001, 0, 0, 1));
        DUE.fails("sign: full, and y", ILLEGAL, () -> page.sign(0, 0, -1000001, 0, 1));
        DUE.fails("sign: full, and the width", ILLEGAL, () -> page.sign(0, 0, 0, -1, 1));
        DUE.fails("sign: full, and the size", ILLEGAL, () -> page.sign(0, 0, 0, 0, 1001));
        DUE.fails("sign: full", FULL, () -> page.sign(0, 0, 0, 0, 1));
    }

    /** Promise 3: "what it was (1, 0)". */
    private static void turnTellsWhatItWas() {
        Page page = twoSigns();
        DUE.is("turn: off, was off", page.turn(1, false), 0);
        DUE.is("turn: on, was off", page.turn(1, true), 0);
        DUE.is("turn: on, was on", page.turn(1, true), 1);
        DUE.is("turn: the other is as it was", page.turn(0, true), 0);
        DUE.is("turn: off, was on", page.turn(1, false), 1);
        DUE.is("turn: off again", page.turn(1, false), 0);
        DUE.is("turn: the other is on still", page.turn(0, false), 1);
    }

    /** "NoSuchElementException: there is no such sign", of every call that takes one. */
    private static void signsThatAreNotThere() {
        Page page = twoSigns();
        for (int sign : new int[] {-1, 2, 3, 199, 200, Integer.MIN_VALUE, Integer.MAX_VALUE}) {
            DUE.fails("turn: sign " + sign, NO_SIGN, () -> page.turn(sign, true));
            DUE.fails("tag: sign " + sign, NO_SIGN, () -> page.tag(sign, 0));
            DUE.fails("line: sign " + sign, NO_SIGN, () -> page.line(sign));
            DUE.fails("block: sign " + sign, NO_SIGN, () -> page.block(sign));
            DUE.fails("twice: sign " + sign, NO_SIGN, () -> page.twice(sign));
            DUE.fails("space: sign " + sign, NO_SIGN, () -> page.space(sign) ? 1 : 0);
        }
        for (int sign = 0; sign < 2; sign++) {
            DUE.is("turn: sign " + sign, page.turn(sign, false), 0);
            DUE.is("tag: sign " + sign, page.tag(sign, -1), -1);
            DUE.is("line: sign " + sign, page.line(sign), 0);
            DUE.is("block: sign " + sign, page.block(sign), 0);
            DUE.is("twice: sign " + sign, page.twice(sign), -1);
            DUE.is("space: sign " + sign, page.space(sign) ? 1 : 0, 0);
        }
    }

    /** Promise 4: "IndexOutOfBoundsException (map, code)". */
    private static void mapTakesKindsAndCodes() {
        Page page = new Page();
        for (int kind : new int[] {-1, 4, 255, Integer.MIN_VALUE, Integer.MAX_VALUE}) {
            DUE.fails("map: kind " + kind, OUTSIDE, () -> page.map(kind, 0, 1, 0));
        }
        for (int code : new int[] {-1, 256, 1024, Integer.MIN_VALUE, Integer.MAX_VALUE}) {
            DUE.fails("map: code " + code, OUTSIDE, () -> page.map(0, code, 1, 0));
            DUE.fails("map: code " + code + " of the last", OUTSIDE, () -> page.map(3, code, 1, 0));
        }
        DUE.is("map: the first of all", page.map(0, 0, 1, 0), 0);
        DUE.is("map: the last code of map 0", page.map(0, 255, 1, 2), 0);
        DUE.is("map: the first code of map 1 is another one", page.map(1, 0, 1, 0), 0);
        DUE.is("map: the first code of map 3", page.map(3, 0, 1, 0), 0);
        DUE.is("map: the last of all", page.map(3, 255, 1, 0), 0);
        DUE.is("map: the first of all told one", page.map(0, 0, 0, 0), 1);
        DUE.is("map: the last code of map 0 told two", page.map(0, 255, 0, 0), 2);
    }

    /** "each 1 .. 65535". */
    private static void mapTakesLetters() {
        Page page = new Page();
        for (int letter : new int[] {-1, 65536, 65537, Integer.MIN_VALUE, Integer.MAX_VALUE}) {
            DUE.fails("map: letter " + letter, ILLEGAL, () -> page.map(0, 7, letter, 0));
            DUE.fails("map: letter " + letter + " of two", ILLEGAL, () -> page.map(0, 7, letter, 1));
            DUE.fails("map: second " + letter, ILLEGAL, () -> page.map(0, 7, 1, letter));
            DUE.fails("map: second " + letter + " behind none", ILLEGAL, () -> page.map(0, 7, 0, letter));
        }
        page.sign(7, 0, 0, 5, 10);
        int[][] taken = {{1, 0}, {65535, 0}, {1, 1}, {1, 65535}, {65535, 1}, {65535, 65535}};
        for (int[] letters : taken) {
            page.map(0, 7, letters[0], letters[1]);
            DUE.is("map: length", page.length(), letters[1] == 0 ? 1 : 2);
            DUE.is("map: first letter", page.letter(0), letters[0]);
            if (letters[1] != 0) {
                DUE.is("map: second letter", page.letter(1), letters[1]);
            }
        }
    }

    /** "how many it told". */
    private static void mapTellsHowMany() {
        Page page = new Page();
        DUE.is("map: none, then one", page.map(2, 9, 5, 0), 0);
        DUE.is("map: one, then one", page.map(2, 9, 6, 0), 1);
        DUE.is("map: one, then two", page.map(2, 9, 6, 7), 1);
        DUE.is("map: two, then two", page.map(2, 9, 7, 6), 2);
        DUE.is("map: two, then one", page.map(2, 9, 7, 0), 2);
        DUE.is("map: one, then none", page.map(2, 9, 0, 0), 1);
        DUE.is("map: none, then none", page.map(2, 9, 0, 0), 0);
        DUE.is("map: none, then two", page.map(2, 9, 1, 1), 0);
        DUE.is("map: two, then none", page.map(2, 9, 0, 0), 2);
        DUE.is("map: another map's code", page.map(1, 9, 0, 0), 0);
        DUE.is("map: the code beside", page.map(2, 8, 0, 0), 0);
    }

    /** "letter = 0, second 0 then: it tells none any more". */
    private static void mapTellsNoneAnyMore() {
        Page page = new Page();
        page.sign(7, 0, 0, 5, 10);
        page.map(0, 7, 'a', 'b');
        DUE.fails("map: 0 and a second", ILLEGAL, () -> page.map(0, 7, 0, 1));
        DUE.fails("map: 0 and the greatest second", ILLEGAL, () -> page.map(0, 7, 0, 65535));
        DUE.reads("map: still two", page, "ab");
        page.map(0, 7, 0, 0);
        DUE.is("map: one letter", page.length(), 1);
        DUE.is("map: that of a code that none tells", page.letter(0), 65533);
    }

    private static void mapNamesOutsideFirst() {
        Page page = new Page();
        for (int kind : new int[] {-1, 4}) {
            DUE.fails("map: kind and letter", OUTSIDE, () -> page.map(kind, 0, 65536, 0));
            DUE.fails("map: kind and second", OUTSIDE, () -> page.map(kind, 0, 1, -1));
            DUE.fails("map: kind and second alone", OUTSIDE, () -> page.map(kind, 0, 0, 1));
        }
        for (int code : new int[] {-1, 256}) {
            DUE.fails("map: code and letter", OUTSIDE, () -> page.map(3, code, -1, 0));
            DUE.fails("map: code and second", OUTSIDE, () -> page.map(3, code, 1, 65536));
            DUE.fails("map: code and second alone", OUTSIDE, () -> page.map(3, code, 0, 1));
        }
    }

    /** Promise 5: "A sign has a tag 0 .. 100, or (-1) none: what it had." */
    private static void tagTakesTags() {
        Page page = twoSigns();
        for (int tag : new int[] {-2, 101, 1000, Integer.MIN_VALUE, Integer.MAX_VALUE}) {
            DUE.fails("tag: " + tag, ILLEGAL, () -> page.tag(1, tag));
        }
        DUE.is("tag: none yet", page.tag(1, -1), -1);
        DUE.is("tag: none still", page.tag(1, 0), -1);
        DUE.is("tag: the least", page.tag(1, 100), 0);
        DUE.is("tag: the greatest", page.tag(1, 100), 100);
        DUE.is("tag: the greatest again", page.tag(1, 99), 100);
        DUE.is("tag: the other has none", page.tag(0, 1), -1);
        DUE.is("tag: the one before the greatest", page.tag(1, -1), 99);
        DUE.is("tag: gone", page.tag(1, -1), -1);
        DUE.is("tag: the other's", page.tag(0, -1), 1);
    }

    private static void tagNamesNoSignFirst() {
        Page page = twoSigns();
        for (int sign : new int[] {-1, 2}) {
            for (int tag : new int[] {-2, 101}) {
                DUE.fails("tag: no sign, no tag", NO_SIGN, () -> page.tag(sign, tag));
            }
        }
        DUE.fails("tag: no sign and no tag on an empty page", NO_SIGN, () -> new Page().tag(0, 101));
        DUE.fails("tag: a sign, no tag", ILLEGAL, () -> page.tag(0, 101));
    }

    /** Promises 6, 7 and 8: letters 0 .. length - 1. */
    private static void letterAndFromWithinTheText() {
        Page page = twoSigns();
        DUE.is("length", page.length(), 2);
        DUE.is("letter: the first", page.letter(0), 'a');
        DUE.is("letter: the last", page.letter(1), 'b');
        DUE.is("from: the first", page.from(0), 0);
        DUE.is("from: the last", page.from(1), 1);
        for (int i : new int[] {-1, 2, 3, 599, 600, Integer.MIN_VALUE, Integer.MAX_VALUE}) {
            DUE.fails("letter " + i, OUTSIDE, () -> page.letter(i));
            DUE.fails("from " + i, OUTSIDE, () -> page.from(i));
        }
        page.map(0, 'b', 'x', 'y');
        DUE.is("letter: one more", page.letter(2), 'y');
        DUE.is("from: one more", page.from(2), 1);
        DUE.fails("letter: behind it", OUTSIDE, () -> page.letter(3));
        page.map(0, 'b', 'x', 0);
        DUE.is("length: it shrinks as well", page.length(), 2);
        DUE.fails("letter: behind the shorter text", OUTSIDE, () -> page.letter(2));
        DUE.fails("from: behind the shorter text", OUTSIDE, () -> page.from(2));
    }

    /** Promise 8: "-1 when it came between two"; a sign's own 10 or 32 is of that sign. */
    private static void fromIsNoneBetween() {
        Page page = Page.telling("ab");
        page.map(0, '_', 32, 10);
        page.sign('a', 0, 0, 5, 10);
        page.sign('_', 5, 0, 5, 10);
        page.sign('b', 12, 0, 5, 10);
        page.sign('a', 0, -12, 5, 10);
        page.sign('b', 0, -100, 5, 10);
        DUE.reads("from: text", page, "a \n b a\nb");
        int[] want = {0, 1, 1, -1, 2, -1, 3, -1, 4};
        for (int i = 0; i < want.length; i++) {
            DUE.is("from " + i, page.from(i), want[i]);
        }
    }

    /** Promises 9 and 10: "-1 of a double", as long as it is one. */
    private static void doublesAreInNoLineOrBlock() {
        Page page = Page.telling("a");
        page.sign('a', 0, 0, 8, 8);
        page.sign('a', 2, 0, 8, 8);
        DUE.is("line: of a double", page.line(1), -1);
        DUE.is("block: of a double", page.block(1), -1);
        DUE.is("line: of the one", page.line(0), 0);
        DUE.is("block: of the one", page.block(0), 0);
        page.turn(1, true);
        DUE.is("line: of a double no more", page.line(1), 1);
        DUE.is("block: of a double no more", page.block(1), 1);
        page.turn(1, false);
        DUE.is("line: of a double again", page.line(1), -1);
        DUE.is("block: of a double again", page.block(1), -1);
    }

    /** Promise 11: "The sign of which one is a double; -1 when it is none." */
    private static void twiceTellsTheSign() {
        Page page = Page.telling("ab");
        page.sign('b', 0, 0, 8, 8);
        page.sign('a', 0, 0, 8, 8);
        page.sign('a', 0, 0, 8, 8);
        page.sign('b', 0, 0, 8, 8);
        int[] want = {-1, -1, 1, 0};
        for (int i = 0; i < want.length; i++) {
            DUE.is("twice " + i, page.twice(i), want[i]);
        }
        page.map(0, 'a', 'b', 0);
        int[] then = {-1, 0, 0, 0};
        for (int i = 0; i < then.length; i++) {
            DUE.is("twice: by the maps as they are, " + i, page.twice(i), then[i]);
        }
    }

    /** Promise 12: no next one, no gap, no SPACE. */
    private static void spaceIsToldOfTheLastAndOfDoubles() {
        Page page = Page.telling("ab");
        page.sign('a', 0, 0, 8, 8);
        page.sign('a', 0, 0, 8, 8);
        page.sign('b', 12, 0, 8, 8);
        page.sign('b', 24, -8, 8, 8);
        DUE.is("space: behind the first", page.space(0) ? 1 : 0, 1);
        DUE.is("space: behind a double", page.space(1) ? 1 : 0, 0);
        DUE.is("space: behind the last of a line", page.space(2) ? 1 : 0, 0);
        DUE.is("space: behind the last of all", page.space(3) ? 1 : 0, 0);
    }

    /** Promise 13: "ArithmeticException when the width is 0". */
    private static void shareOfNoWidth() {
        Page page = new Page();
        for (long gap : new long[] {0, 1, -1, Long.MAX_VALUE, Long.MIN_VALUE}) {
            DUE.fails("share: of no width, gap " + gap, ArithmeticException.class, () -> page.share(gap, 0));
            DUE.is("share: of width 1, gap " + gap, page.share(gap, 1), 1000 * gap);
            DUE.is("share: of width -1, gap " + gap, page.share(gap, -1), -1000 * gap);
        }
        DUE.is("share: of a width whose low half is 0", page.share(1L << 32, 1L << 32), 1000);
    }

    /** "1000 g / w, cut off". */
    private static void shareIsCutOff() {
        Page page = new Page();
        long[][] want = {{1, 4, 250}, {249, 1000, 249}, {1, 1001, 0}, {1, 1000, 1}, {1999, 2000, 999},
            {-1, 1001, 0}, {-1, 3, -333}, {1, -3, -333}, {-1, -3, 333}, {2, 3, 666}, {-2, 3, -666},
            {0, 5, 0}, {0, -5, 0}, {1000000, 1000000, 1000}, {3, 2, 1500}};
        for (long[] row : want) {
            DUE.is("share(" + row[0] + ", " + row[1] + ")", page.share(row[0], row[1]), row[2]);
        }
    }

    /** "as longs": 1000 g wraps around. */
    private static void shareIsAsLongs() {
        Page page = new Page();
        long last = 9223372036854775L;
        DUE.is("share: the last that fits", page.share(last, 1), 9223372036854775000L);
        DUE.is("share: the first that wraps", page.share(last + 1, 1), -9223372036854775616L);
        DUE.is("share: the first that wraps, of 1000", page.share(last + 1, 1000), -9223372036854775L);
        DUE.is("share: the least that fits", page.share(-last, 1), -9223372036854775000L);
        DUE.is("share: the first below that wraps", page.share(-last - 1, 1), 9223372036854775616L);
        DUE.is("share: the greatest", page.share(Long.MAX_VALUE, 1), -1000);
        DUE.is("share: the greatest of the greatest", page.share(Long.MAX_VALUE, Long.MAX_VALUE), 0);
        DUE.is("share: the greatest of 7", page.share(Long.MAX_VALUE, 7), -142);
        DUE.is("share: the least", page.share(Long.MIN_VALUE, -1), 0);
        DUE.is("share: the least long, turned about", page.share(1L << 60, -1), Long.MIN_VALUE);
        DUE.is("share: the least long", page.share(1L << 60, 1), Long.MIN_VALUE);
        DUE.is("share: of the least width", page.share(1L << 60, Long.MIN_VALUE), 1);
    }

    /** Promise 14: "i = -1: how many words". */
    private static void wordsFromMinusOneOn() {
        Page page = Page.telling("ab");
        page.sign('a', 0, 0, 5, 10);
        page.sign('b', 8, 0, 5, 10);
        DUE.is("word: how many", page.word(-1, 0), 2);
        DUE.is("word: how many, by what = 1", page.word(-1, 1), 2);
        DUE.is("word: how many, by another what", page.word(-1, 2), 2);
        DUE.is("word: how many, by what = -1", page.word(-1, -1), 2);
        DUE.is("word: the first", page.word(0, 0), 0);
        DUE.is("word: the last", page.word(1, 0), 2);
        DUE.fails("word: behind the last", OUTSIDE, () -> page.word(2, 0));
        DUE.fails("word: behind the last, its letters", OUTSIDE, () -> page.word(2, 1));
        for (int i : FAR_OUTSIDE) {
            DUE.fails("word " + i, OUTSIDE, () -> page.word(i, 0));
        }
    }

    /** "0 where it begins, 1 how many letters it has", and nothing else. */
    private static void wordTellsTwoThings() {
        Page page = twoSigns();
        DUE.is("word: begins", page.word(0, 0), 0);
        DUE.is("word: has", page.word(0, 1), 2);
        for (int what : new int[] {-1, 2, Integer.MIN_VALUE, Integer.MAX_VALUE}) {
            DUE.fails("word: what " + what, OUTSIDE, () -> page.word(0, what));
            DUE.fails("word: no word, what " + what, OUTSIDE, () -> page.word(1, what));
        }
    }

    /** Promise 15: "A letter 1 .. 65535 behind those that are SOUGHT: how many there are". */
    private static void findTakesLetters() {
        Page page = new Page();
        page.map(0, 7, 1, 65535);
        page.sign(7, 0, 0, 5, 10);
        for (int c : new int[] {-1, 65536, Integer.MIN_VALUE, Integer.MAX_VALUE}) {
            DUE.fails("find: " + c, ILLEGAL, () -> page.find(c));
        }
        DUE.is("find: the least", page.find(1), 1);
        DUE.is("find: the greatest", page.find(65535), 2);
        DUE.is("find: both", page.find(0), 1);
        DUE.is("find: where", page.found(0), 0);
        page.find(65535);
        DUE.is("find: the greatest alone", page.find(0), 1);
        DUE.is("find: where it is", page.found(0), 1);
    }

    /** "UnsupportedOperationException when there are 20"; (0) is no letter more. */
    private static void findTakesTwenty() {
        Page page = Page.telling("a");
        for (int i = 0; i < 21; i++) {
            page.sign('a', i * 5L, 0, 5, 10);
        }
        for (int i = 1; i <= 20; i++) {
            DUE.is("find: letter " + i, page.find('a'), i);
        }
        DUE.fails("find: the 21st", FULL, () -> page.find('a'));
        DUE.fails("find: the 21st again", FULL, () -> page.find(65535));
        DUE.is("find: the 20, at two places", page.find(0), 2);
        DUE.is("find: the second place", page.found(1), 1);
        DUE.is("find: they are gone", page.find('b'), 1);
        DUE.is("find: nowhere", page.find(0), 0);
        for (int i = 1; i <= 20; i++) {
            DUE.is("find: again letter " + i, page.find(i == 20 ? 'b' : 'a'), i);
        }
        DUE.is("find: the 20th counts, too", page.find(0), 0);
    }

    private static void findNamesIllegalFirst() {
        Page page = new Page();
        for (int i = 0; i < 20; i++) {
            page.find('a');
        }
        DUE.fails("find: 20 sought, and -1", ILLEGAL, () -> page.find(-1));
        DUE.fails("find: 20 sought, and 65536", ILLEGAL, () -> page.find(65536));
        DUE.fails("find: 20 sought", FULL, () -> page.find(1));
        DUE.is("find: 20 sought, and 0", page.find(0), 0);
    }

    /** "none, if there were no letters". */
    private static void findOfNoLetters() {
        Page page = twoSigns();
        DUE.is("find: nothing", page.find(0), 0);
        page.find('a');
        DUE.is("find: something", page.find(0), 1);
        DUE.is("find: nothing again, since it is gone", page.find(0), 0);
        DUE.fails("find: and nothing is found", OUTSIDE, () -> page.found(0));
        Page empty = new Page();
        empty.find('a');
        DUE.is("find: something on an empty page", empty.find(0), 0);
        DUE.is("find: gone there, too", empty.find('a'), 1);
    }

    /** "where 10 is as 32 (of those that are sought, too)". */
    private static void findSeesTenAsBlank() {
        for (int there : new int[] {10, 32, 9, 11, 31, 33}) {
            for (int sought : new int[] {10, 32, 9, 11, 31, 33}) {
                Page page = Page.telling("ab");
                page.map(0, '_', there, 0);
                page.sign('a', 0, 0, 5, 10);
                page.sign('_', 5, 0, 5, 10);
                page.sign('b', 10, 0, 5, 10);
                page.find('a');
                page.find(sought);
                page.find('b');
                boolean bothBlank = (there == 10 || there == 32) && (sought == 10 || sought == 32);
                DUE.is("find: " + sought + " where " + there + " is", page.find(0),
                        bothBlank || there == sought ? 1 : 0);
                DUE.is("find: the letter is as it was", page.letter(1), there);
            }
        }
    }

    private static void findAtBothEnds() {
        Page page = Page.telling("ab");
        String codes = "abaab";
        for (int i = 0; i < codes.length(); i++) {
            page.sign(codes.charAt(i), i * 5L, 0, 5, 10);
        }
        String[] sought = {"a", "b", "ab", "aab", "abaab", "baab", "abaa", "abaabb", "babaab", "aa", "bb"};
        int[][] places = {{0, 2, 3}, {1, 4}, {0, 3}, {2}, {0}, {1}, {0}, {}, {}, {2}, {}};
        for (int k = 0; k < sought.length; k++) {
            for (int i = 0; i < sought[k].length(); i++) {
                page.find(sought[k].charAt(i));
            }
            DUE.is("find: " + sought[k], page.find(0), places[k].length);
            for (int i = 0; i < places[k].length; i++) {
                DUE.is("find: " + sought[k] + ", place " + i, page.found(i), places[k][i]);
            }
            int behind = places[k].length;
            DUE.fails("find: " + sought[k] + ", behind", OUTSIDE, () -> page.found(behind));
        }
    }

    /** Promise 16: "found by the latest find(0), as the text was then". */
    private static void foundOfTheLatest() {
        Page page = twoSigns();
        page.find('b');
        page.find(0);
        DUE.is("found", page.found(0), 1);
        DUE.fails("found: behind", OUTSIDE, () -> page.found(1));
        for (int i : FAR_OUTSIDE) {
            DUE.fails("found " + i, OUTSIDE, () -> page.found(i));
        }
        DUE.fails("found: -1", OUTSIDE, () -> page.found(-1));
        page.find('a');
        DUE.is("found: not by a letter sought", page.found(0), 1);
        page.map(0, 'a', 'x', 'y');
        DUE.is("found: as the text was", page.found(0), 1);
        page.map(0, 'b', 'c', 0);
        DUE.is("found: though it is there no more", page.found(0), 1);
        DUE.is("found: by the latest, in the text as it is", page.find(0), 0);
        DUE.fails("found: none by the latest", OUTSIDE, () -> page.found(0));
    }

    private static void foundBeforeAnySearch() {
        Page page = twoSigns();
        DUE.fails("found: before any search", OUTSIDE, () -> page.found(0));
        page.find('a');
        DUE.fails("found: before a search is made", OUTSIDE, () -> page.found(0));
        page.find(0);
        DUE.is("found: then", page.found(0), 0);
    }

    /** Promise 17: "in an area (ends with it)": all four ends belong to it. */
    private static void areaEndsWithIt() {
        Page page = Page.telling("a");
        page.sign('a', 7, -3, 5, 10);
        DUE.is("area: the place alone", page.area(7, -3, 7, -3), 1);
        DUE.is("area: x is its left end", page.area(7, -9, 9, 9), 1);
        DUE.is("area: x is left of it", page.area(8, -9, 9, 9), 0);
        DUE.is("area: x is its right end", page.area(0, -9, 7, 9), 1);
        DUE.is("area: x is right of it", page.area(0, -9, 6, 9), 0);
        DUE.is("area: y is its lower end", page.area(0, -3, 9, 9), 1);
        DUE.is("area: y is below it", page.area(0, -2, 9, 9), 0);
        DUE.is("area: y is its upper end", page.area(0, -9, 9, -3), 1);
        DUE.is("area: y is above it", page.area(0, -9, 9, -4), 0);
        DUE.is("area: width and size count nothing", page.area(8, -3, 12, 7), 0);
        DUE.is("area: its ends the other way about are none", page.area(9, -3, 6, -3), 0);
        DUE.is("area: so for y", page.area(7, 0, 7, -9), 0);
    }

    private static void areaOfTheWholeAndOfNothing() {
        Page page = Page.telling("ab");
        page.sign('a', -1000000, 1000000, 1000000, 1000);
        page.sign('b', 1000000, -1000000, 1000000, 1000);
        long least = Long.MIN_VALUE;
        long most = Long.MAX_VALUE;
        DUE.is("area: the greatest", page.area(least, least, most, most), 2);
        DUE.is("area: the whole page", page.area(-1000000, -1000000, 1000000, 1000000), 2);
        DUE.is("area: all but the outermost", page.area(-999999, -999999, 999999, 999999), 0);
        DUE.is("area: at the upper left", page.area(least, 1000000, -1000000, most), 1);
        DUE.is("area: at the lower right", page.area(1000000, least, most, -1000000), 1);
        DUE.is("area: beyond the right", page.area(1000001, least, most, most), 0);
        DUE.is("area: the far ends alone", page.area(least, least, least, least), 0);
        DUE.is("area: of an empty page", new Page().area(least, least, most, most), 0);
    }

    /** "signs whose place (x, y)": of turned ones, too. */
    private static void areaIsByPlaces() {
        Page page = Page.telling("a");
        page.sign('a', 3, 20, 5, 10);
        page.turn(0, true);
        DUE.is("area: (x, y)", page.area(3, 20, 3, 20), 1);
        DUE.is("area: not (u, v)", page.area(20, -3, 20, -3), 0);
    }

    /** "How many letters of the text are of signs": not those between, doubles, or what is joined. */
    private static void areaCountsLetters() {
        Page page = Page.telling("a-b");
        page.map(0, 'L', 'f', '-');
        page.sign('a', 0, 0, 5, 10);
        page.sign('a', 0, 0, 5, 10);
        page.sign('L', 8, 0, 5, 10);
        DUE.reads("area: text", page, "a f-");
        DUE.is("area: three letters", page.area(0, 0, 8, 0), 3);
        page.sign('b', 0, -12, 5, 10);
        DUE.reads("area: joined", page, "a fb");
        DUE.is("area: one is joined", page.area(0, 0, 8, 0), 2);
        DUE.is("area: its sign has one left", page.area(8, 0, 8, 0), 1);
        DUE.is("area: where a double lies", page.area(0, 0, 0, 0), 1);
        page.tag(3, 0);
        DUE.is("area: not joined any more", page.area(8, 0, 8, 0), 2);
    }
}
