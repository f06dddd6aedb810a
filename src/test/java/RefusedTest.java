import java.util.List;
import java.util.NoSuchElementException;

/**
 * "A call that throws changes nothing": whatever can be asked is answered after each refused
 * call as it is without it, on an empty page, on an ordinary one and on a full one.
 */
public final class RefusedTest {
    private static final Due DUE = new Due();
    private static final Class<IllegalArgumentException> ILLEGAL = IllegalArgumentException.class;
    private static final Class<UnsupportedOperationException> FULL = UnsupportedOperationException.class;
    private static final Class<NoSuchElementException> NO_SIGN = NoSuchElementException.class;
    private static final Class<IndexOutOfBoundsException> OUTSIDE = IndexOutOfBoundsException.class;

    private final String name;
    private final Told.Maker maker;
    private final int signs;
    private final List<String> told;
    private final List<String> held;

    private RefusedTest(String name, Told.Maker maker, int signs) {
        this.name = name;
        this.maker = maker;
        this.signs = signs;
        told = Told.by(maker, signs);
        held = Told.heldBy(maker, signs);
    }

    public static void main(String[] args) {
        RefusedTest empty = new RefusedTest("empty page", Page::new, 0);
        RefusedTest ordinary = new RefusedTest("ordinary page", RefusedTest::ordinaryPage, 7);
        RefusedTest full = new RefusedTest("full page", RefusedTest::fullPage, 200);
        for (RefusedTest test : new RefusedTest[] {empty, ordinary, full}) {
            test.refusedSigns();
            test.refusedMaps();
            test.refusedSignNumbers();
            test.refusedIndexes();
            test.refusedLettersAndShares();
        }
        ordinary.refusedTags();
        full.refusedTags();
        full.refusedByFullness();
        DUE.end();
    }

    /** Two lines, a double, a turned sign, tags, a join, places found and letters sought. */
    private static Page ordinaryPage() {
        Page page = Page.telling("ab-c");
        page.map(2, 'L', 'f', 'i');
        page.sign('a', 0, 0, 5, 10);
        page.sign('a', 1, 0, 5, 10);
        page.sign('L', 8, 0, 5, 10);
        page.sign('-', 13, 0, 5, 10);
        page.sign('b', 0, -12, 5, 10);
        page.sign('c', 50, 50, 5, 10);
        page.sign('c', 5, -12, 5, 10);
        page.turn(5, true);
        page.tag(6, 3);
        page.find('c');
        page.find(0);
        page.find('i');
        page.find('b');
        return page;
    }

    private static Page fullPage() {
        Page page = new Page();
        page.map(0, 0, 'a', 0);
        page.map(1, 1, 'b', 'c');
        for (int i = 0; i < 200; i++) {
            page.sign(i % 3, (i % 10) * 7L, -(i / 10) * 15L, 5, 10);
        }
        page.turn(199, true);
        page.tag(100, 100);
        page.find('a');
        page.find(0);
        for (int i = 0; i < 20; i++) {
            page.find(i < 2 ? "ab".charAt(i) : 'c');
        }
        return page;
    }

    private void refused(String what, Class<? extends RuntimeException> by, Told.Question call) {
        String label = name + ", " + what;
        DUE.fails(label, by, () -> call.askedOf(maker.make()));
        Told.Maker after = () -> {
            Page page = maker.make();
            try {
                call.askedOf(page);
            } catch (RuntimeException e) {
                // Which one it is was asked above.
            }
            return page;
        };
        same(label, Told.by(after, signs), told);
        same(label, Told.heldBy(after, signs), held);
    }

    private static void same(String what, List<String> got, List<String> want) {
        DUE.is(what + ": answers", got.size(), want.size());
        for (int i = 0; i < Math.min(got.size(), want.size()); i++) {
            DUE.holds(what + " leaves " + got.get(i) + " for " + want.get(i), got.get(i).equals(want.get(i)));
        }
    }

    private void refusedSigns() {
        refused("a code below", ILLEGAL, p -> p.sign(-1, 0, 0, 5, 10));
        refused("a code beyond", ILLEGAL, p -> p.sign(256, 0, 0, 5, 10));
        refused("x beyond", ILLEGAL, p -> p.sign(0, 1000001, 0, 5, 10));
        refused("y below", ILLEGAL, p -> p.sign(0, 0, -1000001, 5, 10));
        refused("a width below", ILLEGAL, p -> p.sign(0, 0, 0, -1, 10));
        refused("a size below", ILLEGAL, p -> p.sign(0, 0, 0, 5, 0));
        refused("a size beyond", ILLEGAL, p -> p.sign(0, 0, 0, 5, 1001));
    }

    private void refusedMaps() {
        refused("a map beyond", OUTSIDE, p -> p.map(4, 0, 'z', 0));
        refused("a map below", OUTSIDE, p -> p.map(-1, 255, 'z', 0));
        refused("a map's code beyond", OUTSIDE, p -> p.map(0, 256, 'z', 0));
        refused("a map's code below", OUTSIDE, p -> p.map(1, -1, 'z', 0));
        refused("a letter beyond", ILLEGAL, p -> p.map(0, 'a', 65536, 0));
        refused("a letter below", ILLEGAL, p -> p.map(0, 0, -1, 0));
        refused("a second beyond", ILLEGAL, p -> p.map(0, 'a', 'z', 65536));
        refused("a second below", ILLEGAL, p -> p.map(1, 1, 'z', -1));
        refused("a second alone", ILLEGAL, p -> p.map(2, 'L', 0, 1));
    }

    private void refusedSignNumbers() {
        for (int sign : new int[] {-1, signs}) {
            refused("turn sign " + sign, NO_SIGN, p -> p.turn(sign, true));
            refused("tag sign " + sign, NO_SIGN, p -> p.tag(sign, 0));
            refused("tag sign " + sign + " wrongly", NO_SIGN, p -> p.tag(sign, 101));
            refused("line of sign " + sign, NO_SIGN, p -> p.line(sign));
            refused("block of sign " + sign, NO_SIGN, p -> p.block(sign));
            refused("twice of sign " + sign, NO_SIGN, p -> p.twice(sign));
            refused("space of sign " + sign, NO_SIGN, p -> p.space(sign) ? 1 : 0);
        }
    }

    private void refusedIndexes() {
        refused("letter -1", OUTSIDE, p -> p.letter(-1));
        refused("letter behind", OUTSIDE, p -> p.letter(p.length()));
        refused("from -1", OUTSIDE, p -> p.from(-1));
        refused("from behind", OUTSIDE, p -> p.from(p.length()));
        refused("word behind", OUTSIDE, p -> p.word(p.word(-1, 0), 0));
        refused("word -2", OUTSIDE, p -> p.word(-2, 0));
        refused("word's what", OUTSIDE, p -> p.word(0, 2));
        refused("found -1", OUTSIDE, p -> p.found(-1));
        refused("found behind", OUTSIDE, p -> p.found(600));
    }

    private void refusedLettersAndShares() {
        refused("find below", ILLEGAL, p -> p.find(-1));
        refused("find beyond", ILLEGAL, p -> p.find(65536));
        refused("share of no width", ArithmeticException.class, p -> p.share(1, 0));
    }

    private void refusedTags() {
        refused("a tag below", ILLEGAL, p -> p.tag(0, -2));
        refused("a tag beyond", ILLEGAL, p -> p.tag(signs - 1, 101));
    }

    private void refusedByFullness() {
        refused("the 201st sign", FULL, p -> p.sign(0, 0, 0, 5, 10));
        refused("the 21st letter", FULL, p -> p.find('a'));
    }
}
