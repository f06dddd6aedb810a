import java.util.ArrayList;
import java.util.List;
import java.util.NoSuchElementException;
import java.util.Random;

/** Seeded runs: after every change all that the object tells is what the plain model tells. */
public final class ModelTest {
    private static final int[] LETTERS = {97, 98, 99, 122, 123, 96, 45, 45, 65, 32, 10, 65533, 65535, 1};
    private static final Due DUE = new Due();

    private final Random random;
    private final String name;
    private final TextOrder order = new TextOrder();
    private final PlainModel model = new PlainModel();
    private final List<Integer> sought = new ArrayList<>();
    private List<Integer> found = new ArrayList<>();
    private final long pace;
    private final int codes;
    private final int lineStep;

    private ModelTest(int seed) {
        random = new Random(seed);
        name = "seed " + seed + ": ";
        pace = new long[] {3, 9, 20, 60, 400}[random.nextInt(5)];
        codes = 1 + random.nextInt(6);
        lineStep = 1 + random.nextInt(25);
    }

    public static void main(String[] args) {
        for (int seed = 0; seed < 1500; seed++) {
            new ModelTest(seed).run(seed % 40 == 0 ? 230 : 45);
        }
        for (int seed = 0; seed < 12; seed++) {
            new ModelTest(10000 + seed).fill();
        }
        DUE.end();
    }

    private void run(int steps) {
        for (int step = 0; step < steps; step++) {
            change();
            if (steps < 100 || step % 20 == 0 || step == steps - 1) {
                compare();
            }
            wrongCall();
            search();
            areas();
        }
        compare();
    }

    /** All 200 signs, then 1 more that is refused. */
    private void fill() {
        for (int i = 0; i < 200; i++) {
            addSign();
        }
        compare();
        DUE.fails(name + "the 201st sign", UnsupportedOperationException.class,
                () -> order.sign(0, 0, 0, 0, 1));
        for (int i = 0; i < 20; i++) {
            change();
        }
        compare();
    }

    private void change() {
        int what = random.nextInt(20);
        if (model.signs.isEmpty() || what < 11) {
            if (model.signs.size() < 200) {
                addSign();
            }
        } else if (what < 13) {
            PlainModel.Sign sign = anySign();
            boolean on = random.nextInt(3) > 0 ? !sign.turned : sign.turned;
            DUE.is(name + "turn", order.turn(sign.number, on), sign.turned ? 1 : 0);
            sign.turned = on;
        } else if (what < 16) {
            PlainModel.Sign sign = anySign();
            int tag = new int[] {-1, -1, 0, 0, 1, 2, 50, 100}[random.nextInt(8)];
            DUE.is(name + "tag", order.tag(sign.number, tag), sign.tag);
            sign.tag = tag;
        } else {
            changeMap();
        }
        model.tell();
    }

    private PlainModel.Sign anySign() {
        return model.signs.get(random.nextInt(model.signs.size()));
    }

    private void addSign() {
        PlainModel.Sign sign = new PlainModel.Sign();
        sign.number = model.signs.size();
        sign.code = 65 + random.nextInt(codes);
        sign.width = new long[] {0, 4, 5, 5, 5, 8, 12}[random.nextInt(7)];
        sign.size = new int[] {1, 9, 10, 10, 10, 10, 11, 20}[random.nextInt(8)];
        place(sign);
        DUE.is(name + "sign", order.sign(sign.code, sign.x, sign.y, sign.width, sign.size), sign.number);
        model.signs.add(sign);
        model.tell();
        if (random.nextInt(5) == 0) {
            order.turn(sign.number, true);
            sign.turned = true;
            model.tell();
        }
    }

    /** Mostly behind or below an earlier sign, so that rows, columns, gaps and doubles come about. */
    private void place(PlainModel.Sign sign) {
        int how = random.nextInt(10);
        if (model.signs.isEmpty() || how == 0) {
            sign.x = random.nextInt(200) - 100;
            sign.y = random.nextInt(200) - 100;
            return;
        }
        PlainModel.Sign other = how < 6 ? model.signs.get(model.signs.size() - 1) : anySign();
        sign.x = other.x;
        sign.y = other.y;
        if (how < 5) {
            sign.x += other.width + random.nextInt((int) pace + 1);
            sign.y += random.nextInt(5) == 0 ? random.nextInt(13) - 6 : 0;
        } else if (how < 8) {
            sign.y -= random.nextInt(3) + lineStep;
            sign.x += random.nextInt(7) - 3;
        } else {
            sign.x += random.nextInt(5) - 2;
            sign.y += random.nextInt(7) - 3;
        }
    }

    private void changeMap() {
        int kind = random.nextInt(4);
        int code = 65 + random.nextInt(codes);
        int first = random.nextInt(5) == 0 ? 0 : LETTERS[random.nextInt(LETTERS.length)];
        int second = first == 0 || random.nextInt(3) > 0 ? 0 : LETTERS[random.nextInt(LETTERS.length)];
        int[] before = model.maps[kind][code];
        DUE.is(name + "map", order.map(kind, code, first, second), before == null ? 0 : before.length);
        model.maps[kind][code] = first == 0 ? null
                : second == 0 ? new int[] {first} : new int[] {first, second};
    }

    private void compare() {
        DUE.is(name + "length", order.length(), model.text.size());
        for (int i = 0; i < Math.min(order.length(), model.text.size()); i++) {
            DUE.is(name + "letter " + i, order.letter(i), model.text.get(i).letter());
            DUE.is(name + "from " + i, order.from(i), model.text.get(i).from());
        }
        for (PlainModel.Sign sign : model.signs) {
            int s = sign.number;
            DUE.is(name + "line " + s, order.line(s), sign.line);
            DUE.is(name + "block " + s, order.block(s), sign.segment == null ? -1 : sign.segment.block);
            DUE.is(name + "twice " + s, order.twice(s), sign.doubled == null ? -1 : sign.doubled.number);
            DUE.is(name + "space " + s, order.space(s) ? 1 : 0, sign.space ? 1 : 0);
        }
        List<int[]> words = model.words();
        DUE.is(name + "words", order.word(-1, random.nextInt(5) - 2), words.size());
        for (int i = 0; i < words.size(); i++) {
            DUE.is(name + "word begins " + i, order.word(i, 0), words.get(i)[0]);
            DUE.is(name + "word length " + i, order.word(i, 1), words.get(i)[1]);
        }
        DUE.fails(name + "word behind", IndexOutOfBoundsException.class, () -> order.word(words.size(), 0));
        DUE.fails(name + "letter behind", IndexOutOfBoundsException.class, () -> order.letter(model.text.size()));
        DUE.fails(name + "from behind", IndexOutOfBoundsException.class, () -> order.from(model.text.size()));
        compareFound();
    }

    private void compareFound() {
        for (int i = 0; i < found.size(); i++) {
            DUE.is(name + "found " + i, order.found(i), found.get(i));
        }
        DUE.fails(name + "found behind", IndexOutOfBoundsException.class, () -> order.found(found.size()));
    }

    private void search() {
        if (random.nextInt(3) > 0) {
            return;
        }
        int many = random.nextInt(4);
        int at = model.text.isEmpty() ? 0 : random.nextInt(model.text.size());
        for (int i = 0; i < many && sought.size() < 20; i++) {
            boolean asThere = at + i < model.text.size() && random.nextInt(8) > 0;
            int c = asThere ? model.text.get(at + i).letter() : LETTERS[random.nextInt(LETTERS.length)];
            c = c == 10 && random.nextBoolean() ? 32 : c;
            sought.add(c);
            DUE.is(name + "find a letter", order.find(c), sought.size());
        }
        if (random.nextInt(4) > 0) {
            found = model.places(sought);
            sought.clear();
            DUE.is(name + "find", order.find(0), found.size());
        }
        compareFound();
    }

    private void areas() {
        long x = random.nextInt(200) - 100;
        long y = random.nextInt(200) - 100;
        if (!model.signs.isEmpty() && random.nextBoolean()) {
            x = anySign().x;
            y = anySign().y;
        }
        long x2 = x + random.nextInt(150) - 10;
        long y2 = y + random.nextInt(150) - 10;
        DUE.is(name + "area", order.area(x, y, x2, y2), model.area(x, y, x2, y2));
        DUE.is(name + "all", order.area(Long.MIN_VALUE, Long.MIN_VALUE, Long.MAX_VALUE, Long.MAX_VALUE),
                model.area(Long.MIN_VALUE, Long.MIN_VALUE, Long.MAX_VALUE, Long.MAX_VALUE));
    }

    /** Refused, with no trace: what is compared later is as without it. */
    private void wrongCall() {
        int none = random.nextBoolean() ? model.signs.size() : -1 - random.nextInt(3);
        switch (random.nextInt(8)) {
            case 0 -> DUE.fails(name + "wrong sign", IllegalArgumentException.class,
                    () -> order.sign(256, 0, 0, 5, 10));
            case 1 -> DUE.fails(name + "wrong turn", NoSuchElementException.class, () -> order.turn(none, true));
            case 2 -> DUE.fails(name + "wrong map", IndexOutOfBoundsException.class,
                    () -> order.map(4, 65, 70000, 0));
            case 3 -> DUE.fails(name + "wrong letter", IllegalArgumentException.class,
                    () -> order.map(0, 65, 0, 7));
            case 4 -> DUE.fails(name + "wrong tag", NoSuchElementException.class, () -> order.tag(none, 500));
            case 5 -> DUE.fails(name + "wrong line", NoSuchElementException.class, () -> order.line(none));
            case 6 -> DUE.fails(name + "wrong find", IllegalArgumentException.class, () -> order.find(65536));
            default -> DUE.fails(name + "wrong block", NoSuchElementException.class, () -> order.block(none));
        }
    }
}
