import java.util.ArrayList;
import java.util.List;

/**
 * All that an object tells, a line for each answer. It is asked of as many objects made alike
 * as it takes to stay within the calls that one object is good for.
 */
final class Told {
    interface Maker {
        Page make();
    }

    interface Question {
        long askedOf(Page page);
    }

    private final Maker maker;
    private final List<String> lines = new ArrayList<>();
    private Page page;

    private Told(Maker maker) {
        this.maker = maker;
        this.page = maker.make();
    }

    /** What calls that change nothing tell. */
    static List<String> by(Maker maker, int signs) {
        Told told = new Told(maker);
        told.askOfText();
        told.askOfSigns(signs);
        told.askUntilRefused("found ", i -> p -> p.found(i));
        for (long far : new long[] {0, 10, 100, 1000000}) {
            told.ask("area " + far, p -> p.area(-far, -far, far, far));
        }
        return told.lines;
    }

    /** What calls that change something tell of what was: turns, tags, maps, signs, letters sought. */
    static List<String> heldBy(Maker maker, int signs) {
        Told told = new Told(maker);
        for (int s = 0; s <= signs; s++) {
            int sign = s;
            told.ask("turn " + s, p -> p.turn(sign, true));
            told.ask("tag " + s, p -> p.tag(sign, -1));
        }
        for (int kind = 0; kind < 4; kind++) {
            for (int code = 0; code < 256; code++) {
                int[] at = {kind, code};
                told.ask("map " + kind + " " + code, p -> p.map(at[0], at[1], 0, 0));
            }
        }
        told.askAnew("the next sign", p -> p.sign(0, 0, 0, 0, 1));
        told.askAnew("one letter more", p -> p.find('a'));
        told.askAnew("what is sought", p -> p.find(0));
        Told searched = new Told(() -> {
            Page made = maker.make();
            made.find(0);
            return made;
        });
        searched.askUntilRefused("found anew ", i -> p -> p.found(i));
        told.lines.addAll(searched.lines);
        return told.lines;
    }

    private void askOfText() {
        ask("length", Page::length);
        askUntilRefused("letter ", i -> p -> p.letter(i));
        askUntilRefused("from ", i -> p -> p.from(i));
        ask("words", p -> p.word(-1, 0));
        askUntilRefused("word begins ", i -> p -> p.word(i, 0));
        askUntilRefused("word has ", i -> p -> p.word(i, 1));
    }

    private void askOfSigns(int signs) {
        for (int s = 0; s <= signs; s++) {
            int sign = s;
            ask("line " + s, p -> p.line(sign));
            ask("block " + s, p -> p.block(sign));
            ask("twice " + s, p -> p.twice(sign));
            ask("space " + s, p -> p.space(sign) ? 1 : 0);
        }
    }

    interface Row {
        Question at(int i);
    }

    private void askUntilRefused(String what, Row row) {
        for (int i = 0; i < 1000; i++) {
            if (!ask(what + i, row.at(i))) {
                return;
            }
        }
    }

    private void askAnew(String what, Question question) {
        page = maker.make();
        ask(what, question);
    }

    /** Whether it was answered, not refused. */
    private boolean ask(String what, Question question) {
        if (page.callsLeft() == 0) {
            page = maker.make();
        }
        try {
            lines.add(line(what, question.askedOf(page)));
            return true;
        } catch (RuntimeException e) {
            lines.add(refused(what, e.getClass()));
            return false;
        }
    }

    static String line(String what, long answer) {
        return what + ": " + answer;
    }

    static String refused(String what, Class<? extends RuntimeException> by) {
        return what + ": " + by.getSimpleName();
    }
}
