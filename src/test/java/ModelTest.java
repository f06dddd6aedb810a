import java.util.ArrayList;
import java.util.Collections;
import java.util.List;
import java.util.NoSuchElementException;
import java.util.Random;

/**
 * Seeded runs of calls, each object used for no more than 512: after every change some answers are
 * compared with those of the plain model, and at the end of a run all of them.
 */
public final class ModelTest {
    private static final int[] LETTERS = {97, 98, 99, 122, 123, 96, 45, 45, 65, 32, 10, 65533, 65535, 1};
    private static final Due DUE = new Due();

    private final Random random;
    private final String name;
    private final Page page = new Page();
    private final PlainModel model = new PlainModel();
    private final List<Told.Question> calls = new ArrayList<>();
    private final List<Integer> sought = new ArrayList<>();
    private List<Integer> found = new ArrayList<>();
    private final long pace;
    private final int codes;
    private final int lineStep;
    private final long middle;

    private ModelTest(int seed) {
        random = new Random(seed);
        name = "seed " + seed + ": ";
        pace = new long[] {3, 9, 20, 60, 400}[random.nextInt(5)];
        codes = 1 + random.nextInt(6);
        lineStep = 1 + random.nextInt(25);
        middle = new long[] {0, 0, 0, 999990, -999990}[random.nextInt(5)];
    }

    public static void main(String[] args) {
        for (int seed = 0; seed < 3000; seed++) {
            new ModelTest(seed).run(2 + seed % 60);
        }
        for (int seed = 0; seed < 40; seed++) {
            new ModelTest(10000 + seed).fill();
        }
        for (int seed = 0; seed < 400; seed++) {
            new ModelTest(20000 + seed).layOut();
        }
        DUE.end();
    }

    private void run(int steps) {
        for (int step = 0; step < steps && page.callsLeft() > 20; step++) {
            change();
            wrongCall();
            search();
            askSome(5);
        }
        askAll();
    }

    /** All 200 signs, then 1 more that is refused. */
    private void fill() {
        for (int i = 0; i < 200; i++) {
            addSign();
        }
        DUE.fails(name + "the 201st sign", UnsupportedOperationException.class,
                () -> page.sign(0, 0, 0, 0, 1));
        askSome(20);
        for (int i = 0; i < 20; i++) {
            change();
            askSome(3);
        }
        askAll();
    }

    /**
     * A page of columns with paragraphs of lines of words, whose gaps lie about the least ones that
     * cut, part and make spaces; its signs come in no order, some pages are turned.
     */
    private void layOut() {
        int columns = 1 + random.nextInt(4);
        int rows = 1 + random.nextInt(4);
        List<PlainModel.Sign> laid = new ArrayList<>();
        if (random.nextBoolean()) {
            layRow(laid, 0, 30, random.nextInt(40), 1 + random.nextInt(6));
        }
        for (int column = 0; column < columns; column++) {
            long v = -random.nextInt(3) * 4L;
            long u = column * (60L + random.nextInt(30));
            for (int row = 0; row < rows; row++) {
                layRow(laid, u + random.nextInt(3), v, 0, 1 + random.nextInt(6));
                v -= new long[] {10, 12, 15, 19, 20, 21, 30}[random.nextInt(7)];
            }
        }
        Collections.shuffle(laid, random);
        boolean turned = random.nextInt(4) == 0;
        for (PlainModel.Sign sign : laid.subList(0, Math.min(laid.size(), 90))) {
            putDown(sign, turned != (random.nextInt(30) == 0));
        }
        changeMap();
        changeMap();
        for (int i = 0; i < 10; i++) {
            change();
            search();
            askSome(2);
        }
        askAll();
    }

    /** Signs along one line, as wide apart as nothing, a SPACE or a cut asks for. */
    private void layRow(List<PlainModel.Sign> laid, long left, long v, long extra, int many) {
        long u = left;
        for (int i = 0; i < many; i++) {
            PlainModel.Sign sign = new PlainModel.Sign();
            sign.code = 65 + random.nextInt(codes);
            sign.width = new long[] {5, 5, 5, 8, 20 + extra}[random.nextInt(5)];
            sign.size = random.nextInt(6) == 0 ? 9 + random.nextInt(4) : 10;
            sign.x = u;
            sign.y = v - (random.nextInt(8) == 0 ? random.nextInt(6) : 0);
            laid.add(sign);
            u += sign.width + new long[] {0, 0, 1, 2, 3, 29, 30, 31}[random.nextInt(8)];
        }
    }

    private void putDown(PlainModel.Sign sign, boolean turned) {
        long u = sign.x;
        long v = sign.y;
        sign.number = model.signs.size();
        sign.x = turned ? -v : u;
        sign.y = turned ? u : v;
        model.signs.add(sign);
        changes("sign", p -> p.sign(sign.code, sign.x, sign.y, sign.width, sign.size), sign.number);
        if (turned) {
            turn(sign, true);
        }
    }

    private void changes(String what, Told.Question change, long due) {
        calls(what, change, due);
        model.tell();
    }

    /** On the page, and later on each page that is made alike. */
    private void calls(String what, Told.Question call, long due) {
        DUE.is(name + what, call.askedOf(page), due);
        calls.add(call);
    }

    private Page madeAlike() {
        Page alike = new Page();
        for (Told.Question call : calls) {
            call.askedOf(alike);
        }
        return alike;
    }

    private void change() {
        int what = random.nextInt(20);
        if (model.signs.isEmpty() || what < 11) {
            if (model.signs.size() < 200) {
                addSign();
            }
        } else if (what < 13) {
            PlainModel.Sign sign = anySign();
            turn(sign, random.nextInt(3) > 0 ? !sign.turned : sign.turned);
        } else if (what < 16) {
            PlainModel.Sign sign = anySign();
            int had = sign.tag;
            int tag = new int[] {-1, -1, 0, 0, 1, 2, 50, 100}[random.nextInt(8)];
            sign.tag = tag;
            changes("tag", p -> p.tag(sign.number, tag), had);
        } else {
            changeMap();
        }
    }

    private PlainModel.Sign anySign() {
        return model.signs.get(random.nextInt(model.signs.size()));
    }

    private void turn(PlainModel.Sign sign, boolean on) {
        int was = sign.turned ? 1 : 0;
        sign.turned = on;
        changes("turn", p -> p.turn(sign.number, on), was);
    }

    private void addSign() {
        PlainModel.Sign sign = new PlainModel.Sign();
        sign.number = model.signs.size();
        sign.code = 65 + random.nextInt(codes);
        sign.width = new long[] {0, 4, 5, 5, 5, 8, 12}[random.nextInt(7)];
        sign.size = new int[] {1, 9, 10, 10, 10, 10, 11, 20}[random.nextInt(8)];
        place(sign);
        model.signs.add(sign);
        changes("sign", p -> p.sign(sign.code, sign.x, sign.y, sign.width, sign.size), sign.number);
        if (random.nextInt(5) == 0) {
            turn(sign, true);
        }
    }

    /** Mostly behind or below an earlier sign, so that rows, columns, gaps and doubles come about. */
    private void place(PlainModel.Sign sign) {
        int how = random.nextInt(10);
        if (model.signs.isEmpty() || how == 0) {
            sign.x = middle + random.nextInt(200) - 100;
            sign.y = middle + random.nextInt(200) - 100;
        } else {
            placeBesideAnother(sign, how);
        }
        sign.x = onPage(sign.x);
        sign.y = onPage(sign.y);
    }

    private static long onPage(long place) {
        return Math.max(-1000000, Math.min(1000000, place));
    }

    private void placeBesideAnother(PlainModel.Sign sign, int how) {
        PlainModel.Sign other = how < 6 ? model.signs.get(model.signs.size() - 1) : anySign();
        sign.x = other.x;
        sign.y = other.y;
        if (how < 5) {
            sign.x += other.width + random.nextInt((int) pace + 1);
            sign.y += random.nextInt(5) == 0 ? random.nextInt(13) - 6 : 0;
        } else if (how < 8) {
            sign.y -= random.nextInt(3) + lineStep;
            sign.x += random.nextInt(7) - 3;
        } else {
            sign.x += random.nextInt(5) - 2;
            sign.y += random.nextInt(7) - 3;
        }
    }

    private void changeMap() {
        int kind = random.nextInt(4);
        int code = 65 + random.nextInt(codes);
        int first = random.nextInt(5) == 0 ? 0 : LETTERS[random.nextInt(LETTERS.length)];
        int second = first == 0 || random.nextInt(3) > 0 ? 0 : LETTERS[random.nextInt(LETTERS.length)];
        int[] before = model.maps[kind][code];
        model.maps[kind][code] = first == 0 ? null
                : second == 0 ? new int[] {first} : new int[] {first, second};
        changes("map", p -> p.map(kind, code, first, second), before == null ? 0 : before.length);
    }

    private void search() {
        if (random.nextInt(3) > 0) {
            return;
        }
        int many = random.nextInt(4);
        int at = model.text.isEmpty() ? 0 : random.nextInt(model.text.size());
        for (int i = 0; i < many && sought.size() < 20; i++) {
            boolean asThere = at + i < model.text.size() && random.nextInt(8) > 0;
            int there = asThere ? model.text.get(at + i).letter() : LETTERS[random.nextInt(LETTERS.length)];
            int c = there == 10 && random.nextBoolean() ? 32 : there;
            sought.add(c);
            calls("find a letter", p -> p.find(c), sought.size());
        }
        if (random.nextInt(4) > 0) {
            found = model.places(sought);
            sought.clear();
            calls("find", p -> p.find(0), found.size());
        }
    }

    private void askAll() {
        List<String> got = Told.by(this::madeAlike, model.signs.size());
        List<String> want = model.told(found);
        DUE.is(name + "answers", got.size(), want.size());
        for (int i = 0; i < Math.min(got.size(), want.size()); i++) {
            DUE.holds(name + got.get(i) + ", due is " + want.get(i), got.get(i).equals(want.get(i)));
        }
    }

    private void askSome(int many) {
        for (int i = 0; i < many && page.callsLeft() > 0; i++) {
            switch (random.nextInt(4)) {
                case 0 -> askOfText();
                case 1 -> askOfASign();
                case 2 -> askOfWords();
                default -> askOfAnArea();
            }
        }
    }

    private void askOfText() {
        int length = model.text.size();
        int i = random.nextInt(length + 1);
        if (i == length) {
            DUE.is(name + "length", page.length(), length);
        } else if (random.nextBoolean()) {
            DUE.is(name + "letter " + i, page.letter(i), model.text.get(i).letter());
        } else {
            DUE.is(name + "from " + i, page.from(i), model.text.get(i).from());
        }
    }

    private void askOfASign() {
        if (model.signs.isEmpty()) {
            return;
        }
        PlainModel.Sign sign = anySign();
        int s = sign.number;
        switch (random.nextInt(4)) {
            case 0 -> DUE.is(name + "line " + s, page.line(s), sign.line);
            case 1 -> DUE.is(name + "block " + s, page.block(s), sign.block());
            case 2 -> DUE.is(name + "twice " + s, page.twice(s), sign.doubledOne());
            default -> DUE.is(name + "space " + s, page.space(s) ? 1 : 0, sign.space ? 1 : 0);
        }
    }

    private void askOfWords() {
        List<int[]> words = model.words();
        int i = random.nextInt(words.size() + 1) - 1;
        int what = i < 0 ? random.nextInt(5) - 2 : random.nextInt(2);
        DUE.is(name + "word " + i, page.word(i, what), i < 0 ? words.size() : words.get(i)[what]);
    }

    private void askOfAnArea() {
        long x = random.nextInt(200) - 100;
        long y = random.nextInt(200) - 100;
        if (!model.signs.isEmpty() && random.nextBoolean()) {
            x = anySign().x;
            y = anySign().y;
        }
        long x2 = x + random.nextInt(150) - 10;
        long y2 = y + random.nextInt(150) - 10;
        DUE.is(name + "area", page.area(x, y, x2, y2), model.area(x, y, x2, y2));
    }

    /** Refused, with no trace: what is compared later is as without it. */
    private void wrongCall() {
        int none = random.nextBoolean() ? model.signs.size() : -1 - random.nextInt(3);
        switch (random.nextInt(8)) {
            case 0 -> DUE.fails(name + "wrong sign", IllegalArgumentException.class,
                    () -> page.sign(256, 0, 0, 5, 10));
            case 1 -> DUE.fails(name + "wrong turn", NoSuchElementException.class, () -> page.turn(none, true));
            case 2 -> DUE.fails(name + "wrong map", IndexOutOfBoundsException.class,
                    () -> page.map(4, 65, 70000, 0));
            case 3 -> DUE.fails(name + "wrong letter", IllegalArgumentException.class,
                    () -> page.map(0, 65, 0, 7));
            case 4 -> DUE.fails(name + "wrong tag", NoSuchElementException.class, () -> page.tag(none, 500));
            case 5 -> DUE.fails(name + "wrong line", NoSuchElementException.class, () -> page.line(none));
            case 6 -> DUE.fails(name + "wrong find", IllegalArgumentException.class, () -> page.find(65536));
            default -> DUE.fails(name + "wrong block", NoSuchElementException.class, () -> page.block(none));
        }
    }
}
