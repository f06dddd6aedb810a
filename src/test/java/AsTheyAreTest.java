/**
 * "What is told is by all signs, maps and tags as they are": each call that tells something is the
 * first one behind a change, on an object that was asked before the change and on one that was not.
 */
public final class AsTheyAreTest {
    private static final Due DUE = new Due();
    private static final long REFUSED = Long.MIN_VALUE;
    private static final long FAR = 1000000;

    public static void main(String[] args) {
        byANewSign();
        byASignThatFillsAGap();
        byASignThatIsADouble();
        byASignOfAnotherBlock();
        byATurn();
        byATurnOfADouble();
        byATurnOfTheNext();
        byAMap();
        byAMapThatMakesADouble();
        byATag();
        DUE.end();
    }

    /** Asks before the change and behind it, behind the change alone, and behind it twice. */
    private static void told(String what, Told.Maker maker, Told.Question change, Told.Question asked,
            long before, long after) {
        Page page = maker.make();
        DUE.is(what + " before", answer(page, asked), before);
        change.askedOf(page);
        DUE.is(what + " behind the change", answer(page, asked), after);
        DUE.is(what + " asked again", answer(page, asked), after);
        Page unasked = maker.make();
        change.askedOf(unasked);
        DUE.is(what + " asked for the first time", answer(unasked, asked), after);
    }

    private static long answer(Page page, Told.Question asked) {
        try {
            return asked.askedOf(page);
        } catch (RuntimeException e) {
            return REFUSED;
        }
    }

    private static Told.Question places(int letter) {
        return p -> {
            p.find(letter);
            return p.find(0);
        };
    }

    private static Told.Question allLetters() {
        return p -> p.area(-FAR, -FAR, FAR, FAR);
    }

    /** Reads "a b": the hyphen behind the blank is joined. */
    private static Page joined() {
        Page page = Page.telling("ab-c");
        page.sign('a', 0, 0, 5, 10);
        page.sign('-', 7, 0, 5, 10);
        page.sign('b', 0, -12, 5, 10);
        return page;
    }

    /** Reads "b|a b". */
    private static void byANewSign() {
        Told.Question change = p -> p.sign('b', 0, 100, 5, 10);
        Told.Maker maker = AsTheyAreTest::joined;
        told("sign: length", maker, change, Page::length, 3, 5);
        told("sign: letter", maker, change, p -> p.letter(0), 'a', 'b');
        told("sign: the last letter", maker, change, p -> p.letter(4), REFUSED, 'b');
        told("sign: from", maker, change, p -> p.from(0), 0, 3);
        told("sign: the last from", maker, change, p -> p.from(4), REFUSED, 2);
        told("sign: line", maker, change, p -> p.line(0), 0, 1);
        told("sign: its line", maker, change, p -> p.line(3), REFUSED, 0);
        told("sign: block", maker, change, p -> p.block(0), 0, 1);
        told("sign: its block", maker, change, p -> p.block(3), REFUSED, 0);
        told("sign: words", maker, change, p -> p.word(-1, 0), 2, 3);
        told("sign: the last word", maker, change, p -> p.word(2, 0), REFUSED, 4);
        told("sign: places", maker, change, places('b'), 1, 2);
        told("sign: area", maker, change, allLetters(), 2, 3);
    }

    private static void byASignThatFillsAGap() {
        Told.Question change = p -> p.sign('c', 5, 0, 2, 10);
        Told.Maker maker = AsTheyAreTest::joined;
        told("gap: space", maker, change, p -> p.space(0) ? 1 : 0, 1, 0);
        told("gap: letter", maker, change, p -> p.letter(1), 32, 'c');
        told("gap: from", maker, change, p -> p.from(1), -1, 3);
        told("gap: words", maker, change, p -> p.word(-1, 0), 2, 1);
        told("gap: a word's letters", maker, change, p -> p.word(0, 1), 1, 3);
    }

    private static void byASignThatIsADouble() {
        Told.Question change = p -> p.sign('a', 0, 0, 5, 10);
        Told.Maker maker = AsTheyAreTest::joined;
        told("double: twice", maker, change, p -> p.twice(3), REFUSED, 0);
        told("double: line", maker, change, p -> p.line(3), REFUSED, -1);
        told("double: block", maker, change, p -> p.block(3), REFUSED, -1);
        told("double: length", maker, change, Page::length, 3, 3);
        told("double: area", maker, change, allLetters(), 2, 2);
    }

    /** The upper sign is the right one, so that lines and lefts are in different orders. */
    private static Page crosswise() {
        Page page = Page.telling("abc");
        page.sign('a', 100, 0, 5, 10);
        page.sign('b', 0, -100, 5, 10);
        return page;
    }

    private static void byASignOfAnotherBlock() {
        Told.Question change = p -> p.sign('c', 200, -300, 5, 10);
        Told.Maker maker = AsTheyAreTest::crosswise;
        told("blocks: the right one", maker, change, p -> p.block(0), 1, 1);
        told("blocks: the left one", maker, change, p -> p.block(1), 0, 0);
        told("blocks: the new one", maker, change, p -> p.block(2), REFUSED, 2);
        told("blocks: a sign on the left", maker, p -> p.sign('c', -100, 0, 5, 10), p -> p.block(0), 1, 2);
        told("blocks: a sign over both", maker, p -> p.sign('c', 0, 20, 105, 10), p -> p.block(0), 1, 1);
        told("blocks: a row over both", maker, p -> p.sign('c', 0, 20, 105, 10), p -> p.block(1), 0, 2);
    }

    /** Reads "a b|-". */
    private static void byATurn() {
        Told.Question change = p -> p.turn(1, true);
        Told.Maker maker = AsTheyAreTest::joined;
        told("turn: length", maker, change, Page::length, 3, 5);
        told("turn: letter", maker, change, p -> p.letter(4), REFUSED, 45);
        told("turn: from", maker, change, p -> p.from(4), REFUSED, 1);
        told("turn: line", maker, change, p -> p.line(1), 0, 2);
        told("turn: block", maker, change, p -> p.block(1), 0, 1);
        told("turn: space", maker, change, p -> p.space(0) ? 1 : 0, 1, 0);
        told("turn: words", maker, change, p -> p.word(-1, 0), 2, 3);
        told("turn: places", maker, change, places('-'), 0, 1);
        told("turn: area", maker, change, allLetters(), 2, 3);
        Told.Question andBack = p -> p.turn(1, true) + p.length() + p.turn(1, false);
        told("turn and back: length", maker, andBack, Page::length, 3, 3);
        told("turn and back: space", maker, andBack, p -> p.space(0) ? 1 : 0, 1, 1);
        told("turn and back: line", maker, andBack, p -> p.line(1), 0, 0);
    }

    private static Page doubled() {
        Page page = Page.telling("a");
        page.sign('a', 0, 0, 8, 10);
        page.sign('a', 2, 0, 8, 10);
        return page;
    }

    private static void byATurnOfADouble() {
        Told.Question change = p -> p.turn(1, true);
        Told.Maker maker = AsTheyAreTest::doubled;
        told("turned double: twice", maker, change, p -> p.twice(1), 0, -1);
        told("turned double: line", maker, change, p -> p.line(1), -1, 1);
        told("turned double: block", maker, change, p -> p.block(1), -1, 1);
        told("turned double: length", maker, change, Page::length, 1, 3);
        told("turned double: area", maker, change, allLetters(), 1, 2);
    }

    /** A SPACE goes with the next one, of the first sign and of a later one. */
    private static void byATurnOfTheNext() {
        Told.Maker maker = () -> {
            Page page = Page.telling("abc");
            page.sign('a', 0, 0, 5, 10);
            page.sign('b', 7, 0, 5, 10);
            page.sign('c', 14, 0, 5, 10);
            return page;
        };
        told("next: space behind the first", maker, p -> p.turn(1, true) + p.turn(2, true),
                p -> p.space(0) ? 1 : 0, 1, 0);
        told("next: space behind the second", maker, p -> p.turn(2, true), p -> p.space(1) ? 1 : 0, 1, 0);
        told("next: a cut in its stead", maker, p -> p.turn(2, true) + p.sign('c', 100, 0, 5, 10),
                p -> p.space(1) ? 1 : 0, 1, 0);
    }

    /** Reads "a - B". */
    private static void byAMap() {
        Told.Question change = p -> p.map(0, 'b', 'B', 0);
        Told.Maker maker = AsTheyAreTest::joined;
        told("map: length", maker, change, Page::length, 3, 5);
        told("map: letter", maker, change, p -> p.letter(2), 'b', 45);
        told("map: from", maker, change, p -> p.from(2), 2, 1);
        told("map: words", maker, change, p -> p.word(-1, 0), 2, 3);
        told("map: places", maker, change, places('B'), 0, 1);
        told("map: area", maker, change, allLetters(), 2, 3);
        told("map: no map", maker, p -> p.map(0, 'a', 0, 0), p -> p.letter(0), 'a', 65533);
        told("map: of a lower rank", maker, p -> p.map(1, 'a', 'z', 'z'), p -> p.letter(0), 'a', 'a');
        told("map: of a code that is not there", maker, p -> p.map(0, 'q', 'z', 0), Page::length, 3, 3);
    }

    private static void byAMapThatMakesADouble() {
        Told.Question change = p -> p.map(0, 'b', 'a', 0);
        Told.Maker maker = () -> {
            Page page = Page.telling("abc");
            page.sign('a', 0, 0, 8, 10);
            page.sign('b', 2, 0, 8, 10);
            page.sign('c', 12, 0, 8, 10);
            return page;
        };
        told("made double: twice", maker, change, p -> p.twice(1), -1, 0);
        told("made double: line", maker, change, p -> p.line(1), 0, -1);
        told("made double: block", maker, change, p -> p.block(1), 0, -1);
        told("made double: its space", maker, change, p -> p.space(1) ? 1 : 0, 1, 0);
        told("made double: the space of the one", maker, change, p -> p.space(0) ? 1 : 0, 0, 1);
        told("made double: length", maker, change, Page::length, 4, 3);
    }

    /** Reads "b|a -". */
    private static void byATag() {
        Told.Question change = p -> p.tag(2, 0);
        Told.Maker maker = AsTheyAreTest::joined;
        told("tag: length", maker, change, Page::length, 3, 5);
        told("tag: letter", maker, change, p -> p.letter(0), 'a', 'b');
        told("tag: from", maker, change, p -> p.from(0), 0, 2);
        told("tag: words", maker, change, p -> p.word(-1, 0), 2, 3);
        told("tag: places", maker, change, places('-'), 0, 1);
        told("tag: area", maker, change, allLetters(), 2, 3);
        told("tag: line", maker, change, p -> p.line(2), 1, 1);
        told("tag: block", maker, change, p -> p.block(2), 0, 0);
        told("tag: space", maker, change, p -> p.space(0) ? 1 : 0, 1, 1);
        told("tag and back: length", maker, p -> p.tag(2, 0) + p.length() + p.tag(2, -1), Page::length, 3, 3);
    }
}
