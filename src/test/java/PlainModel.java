import java.util.ArrayList;
import java.util.Comparator;
import java.util.List;
import java.util.NoSuchElementException;

/** The document's Terms, word by word, with no thought of speed or room; answers only. */
final class PlainModel {
    record Letter(int letter, int from) { }

    static final class Sign {
        int number;
        int code;
        long x;
        long y;
        long width;
        int size;
        boolean turned;
        int tag = -1;
        Sign doubled;
        int line = -1;
        Segment segment;
        boolean space;

        long u() {
            return turned ? y : x;
        }

        long v() {
            return turned ? -x : y;
        }

        int block() {
            return segment == null ? -1 : segment.block;
        }

        int doubledOne() {
            return doubled == null ? -1 : doubled.number;
        }
    }

    static final class Segment {
        final List<Sign> signs = new ArrayList<>();
        int line;
        int block = -1;

        long left() {
            return signs.get(0).u();
        }

        long right() {
            return signs.stream().mapToLong(s -> s.u() + s.width).max().getAsLong();
        }

        long top() {
            return signs.stream().mapToLong(s -> s.v() + s.size).max().getAsLong();
        }

        long bottom() {
            return signs.stream().mapToLong(Sign::v).min().getAsLong();
        }

        int size() {
            return signs.stream().mapToInt(s -> s.size).max().getAsInt();
        }
    }

    final List<Sign> signs = new ArrayList<>();
    final int[][][] maps = new int[4][256][];
    List<Letter> text = new ArrayList<>();
    private int lines;
    private int blocks;
    private List<Segment> segments;
    private List<Segment> inOrder;

    List<Integer> letters(int code) {
        for (int[][] map : maps) {
            if (map[code] != null) {
                List<Integer> told = new ArrayList<>();
                for (int c : map[code]) {
                    told.add(c);
                }
                return told;
            }
        }
        return List.of(65533);
    }

    void tell() {
        findDoubles();
        lines = 0;
        blocks = 0;
        segments = new ArrayList<>();
        inOrder = new ArrayList<>();
        for (boolean turned : new boolean[] {false, true}) {
            List<Segment> kind = new ArrayList<>();
            for (List<Sign> line : linesOf(turned)) {
                kind.addAll(cut(line));
            }
            segments.addAll(kind);
            part(kind);
        }
        writeText();
    }

    private void findDoubles() {
        for (Sign sign : signs) {
            sign.doubled = null;
            sign.line = -1;
            sign.segment = null;
            sign.space = false;
            for (Sign earlier : signs.subList(0, sign.number)) {
                if (sign.doubled == null && earlier.doubled == null && isDouble(sign, earlier)) {
                    sign.doubled = earlier;
                }
            }
        }
    }

    private boolean isDouble(Sign sign, Sign earlier) {
        return letters(sign.code).equals(letters(earlier.code)) && sign.turned == earlier.turned
                && 4 * Math.abs(sign.u() - earlier.u()) <= earlier.width
                && 4 * Math.abs(sign.v() - earlier.v()) <= earlier.size;
    }

    private List<List<Sign>> linesOf(boolean turned) {
        List<Sign> left = new ArrayList<>();
        for (Sign sign : signs) {
            if (sign.doubled == null && sign.turned == turned) {
                left.add(sign);
            }
        }
        Comparator<Sign> highest = Comparator.comparingLong((Sign s) -> -s.v())
                .thenComparingLong(Sign::u).thenComparingInt(s -> s.number);
        List<List<Sign>> found = new ArrayList<>();
        while (!left.isEmpty()) {
            Sign head = left.stream().min(highest).get();
            List<Sign> line = new ArrayList<>();
            for (Sign sign : left) {
                if (head.v() - sign.v() <= head.size / 2.0) {
                    line.add(sign);
                }
            }
            left.removeAll(line);
            line.sort(Comparator.comparingLong(Sign::u).thenComparingInt(s -> s.number));
            for (Sign sign : line) {
                sign.line = lines;
            }
            lines++;
            found.add(line);
        }
        return found;
    }

    private List<Segment> cut(List<Sign> line) {
        List<Segment> found = new ArrayList<>();
        Segment open = new Segment();
        found.add(open);
        for (int i = 0; i < line.size(); i++) {
            Sign sign = line.get(i);
            open.line = sign.line;
            open.signs.add(sign);
            sign.segment = open;
            if (i + 1 == line.size()) {
                break;
            }
            long gap = line.get(i + 1).u() - sign.u() - sign.width;
            if (gap >= 3 * sign.size) {
                open = new Segment();
                found.add(open);
            } else if (gap > 0 && sign.width != 0 && 1000 * gap / sign.width >= 250) {
                sign.space = true;
            }
        }
        return found;
    }

    private void part(List<Segment> some) {
        if (some.isEmpty()) {
            return;
        }
        int size = some.stream().mapToInt(Segment::size).max().getAsInt();
        List<Segment> across = new ArrayList<>(some);
        across.sort(Comparator.comparingLong(Segment::left));
        List<Segment> down = new ArrayList<>(some);
        down.sort(Comparator.comparingLong(s -> -s.top()));
        int at = widest(across, true, 2 * size);
        if (at > 0) {
            part(across.subList(0, at));
            part(across.subList(at, across.size()));
            return;
        }
        at = widest(down, false, size);
        if (at > 0) {
            part(down.subList(0, at));
            part(down.subList(at, down.size()));
            return;
        }
        List<Segment> block = new ArrayList<>(some);
        block.sort(Comparator.comparingInt((Segment s) -> s.line).thenComparingLong(Segment::left));
        for (Segment segment : block) {
            segment.block = blocks;
        }
        blocks++;
        inOrder.addAll(block);
    }

    /** Before which one the widest gap lies, of these the first; -1 if that is not wide enough. */
    private int widest(List<Segment> row, boolean across, long least) {
        int at = -1;
        long most = Long.MIN_VALUE;
        for (int i = 1; i < row.size(); i++) {
            long gap = Long.MAX_VALUE;
            for (Segment before : row.subList(0, i)) {
                gap = Math.min(gap, across ? row.get(i).left() - before.right()
                        : before.bottom() - row.get(i).top());
            }
            if (gap > most) {
                most = gap;
                at = i;
            }
        }
        return at > 0 && most > 0 && most >= least ? at : -1;
    }

    private void writeText() {
        List<Sign> order = new ArrayList<>();
        for (int tag = 0; tag <= 101; tag++) {
            for (Segment segment : inOrder) {
                for (Sign sign : segment.signs) {
                    if (sign.tag == (tag == 101 ? -1 : tag)) {
                        order.add(sign);
                    }
                }
            }
        }
        text = new ArrayList<>();
        Sign before = null;
        for (Sign sign : order) {
            if (before != null) {
                between(before, sign);
            }
            for (int c : letters(sign.code)) {
                text.add(new Letter(c, sign.number));
            }
            before = sign;
        }
    }

    private void between(Sign before, Sign sign) {
        List<Sign> row = before.segment.signs;
        int next = row.indexOf(before) + 1;
        if (next < row.size() && row.get(next) == sign) {
            if (before.space) {
                text.add(new Letter(32, -1));
            }
            return;
        }
        if (before.segment != sign.segment && before.segment.block == sign.segment.block
                && before.tag == sign.tag) {
            int first = letters(sign.code).get(0);
            if (text.get(text.size() - 1).letter() == 45 && first >= 97 && first <= 122) {
                text.remove(text.size() - 1);
            } else {
                text.add(new Letter(32, -1));
            }
            return;
        }
        text.add(new Letter(10, -1));
    }

    List<int[]> words() {
        List<int[]> found = new ArrayList<>();
        int start = 0;
        for (int i = 0; i <= text.size(); i++) {
            boolean ends = i == text.size() || text.get(i).letter() == 10 || text.get(i).letter() == 32;
            if (ends) {
                if (i > start) {
                    found.add(new int[] {start, i - start});
                }
                start = i + 1;
            }
        }
        return found;
    }

    List<Integer> places(List<Integer> sought) {
        List<Integer> found = new ArrayList<>();
        for (int i = 0; i < text.size() && !sought.isEmpty(); i++) {
            boolean fits = i + sought.size() <= text.size();
            for (int k = 0; fits && k < sought.size(); k++) {
                int here = text.get(i + k).letter() == 10 ? 32 : text.get(i + k).letter();
                int there = sought.get(k) == 10 ? 32 : sought.get(k);
                fits = here == there;
            }
            if (fits) {
                found.add(i);
            }
        }
        return found;
    }

    int area(long x, long y, long x2, long y2) {
        int inside = 0;
        for (Letter letter : text) {
            if (letter.from() >= 0) {
                Sign sign = signs.get(letter.from());
                if (x <= sign.x && sign.x <= x2 && y <= sign.y && sign.y <= y2) {
                    inside++;
                }
            }
        }
        return inside;
    }

    /** All answers, in the lines and the order of Told.by. */
    List<String> told(List<Integer> found) {
        List<String> lines = new ArrayList<>();
        lines.add(Told.line("length", text.size()));
        row(lines, "letter ", text.stream().map(Letter::letter).toList());
        row(lines, "from ", text.stream().map(Letter::from).toList());
        List<int[]> words = words();
        lines.add(Told.line("words", words.size()));
        row(lines, "word begins ", words.stream().map(word -> word[0]).toList());
        row(lines, "word has ", words.stream().map(word -> word[1]).toList());
        toldOfSigns(lines);
        row(lines, "found ", found);
        for (long far : new long[] {0, 10, 100, 1000000}) {
            lines.add(Told.line("area " + far, area(-far, -far, far, far)));
        }
        return lines;
    }

    private static void row(List<String> lines, String what, List<Integer> answers) {
        for (int i = 0; i < answers.size(); i++) {
            lines.add(Told.line(what + i, answers.get(i)));
        }
        lines.add(Told.refused(what + answers.size(), IndexOutOfBoundsException.class));
    }

    private void toldOfSigns(List<String> lines) {
        for (Sign sign : signs) {
            int s = sign.number;
            lines.add(Told.line("line " + s, sign.line));
            lines.add(Told.line("block " + s, sign.block()));
            lines.add(Told.line("twice " + s, sign.doubledOne()));
            lines.add(Told.line("space " + s, sign.space ? 1 : 0));
        }
        for (String what : new String[] {"line ", "block ", "twice ", "space "}) {
            lines.add(Told.refused(what + signs.size(), NoSuchElementException.class));
        }
    }
}
