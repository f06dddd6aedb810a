import java.util.NoSuchElementException;

/** Text taken out of a page: signs at places become letters, lines, blocks, words. */
public final class TextOrder {
    private static final int MOST_SIGNS = 200;
    /** Two letters of every sign, and one between every two. */
    private static final int MOST_LETTERS = 3 * MOST_SIGNS;
    private static final int MOST_SOUGHT = 20;
    private static final int MAPS = 4;
    private static final int CODES = 256;
    private static final int GREATEST_LETTER = 65535;
    private static final int UNKNOWN_LETTER = 65533;
    private static final int GREATEST_TAG = 100;
    private static final long FARTHEST = 1000000L;
    private static final int GREATEST_SIZE = 1000;
    private static final long LEAST_SHARE = 250L;
    private static final int LINE_FEED = 10;
    private static final int BLANK = 32;
    private static final int HYPHEN = 45;
    private static final int NONE = -1;

    private final Signs signs;
    private final Maps maps;
    private final Places places;
    private final Lines lines;
    private final Segments segments;
    private final Blocks blocks;
    private final Script script;
    private final Search search;
    /** Whether what is derived (places to script) fits the signs, maps and tags as they are. */
    private boolean fresh;

    public TextOrder() {
        signs = new Signs();
        maps = new Maps();
        places = new Places();
        lines = new Lines();
        segments = new Segments();
        blocks = new Blocks();
        script = new Script();
        search = new Search();
        fresh = true;
    }

    public int sign(int code, long x, long y, long width, int size)
            throws IllegalArgumentException, UnsupportedOperationException {
        boolean fits = code >= 0 && code < CODES && isCoordinate(x) && isCoordinate(y)
                && width >= 0 && width <= FARTHEST && size >= 1 && size <= GREATEST_SIZE;
        if (!fits) {
            throw new IllegalArgumentException("no such sign can be");
        }
        if (signs.count >= MOST_SIGNS) {
            throw new UnsupportedOperationException("the page is full");
        }
        fresh = false;
        return signs.add(code, x, y, width, size);
    }

    public int turn(int sign, boolean on) throws NoSuchElementException {
        requireSign(sign);
        boolean was = signs.turned[sign];
        signs.turned[sign] = on;
        fresh = false;
        return was ? 1 : 0;
    }

    public int map(int kind, int code, int letter, int second)
            throws IndexOutOfBoundsException, IllegalArgumentException {
        if (kind < 0 || kind >= MAPS || code < 0 || code >= CODES) {
            throw new IndexOutOfBoundsException("no such map or code");
        }
        if (!areLetters(letter, second)) {
            throw new IllegalArgumentException("no such letters");
        }
        int told = maps.told(kind, code);
        maps.tell(kind, code, letter, second);
        fresh = false;
        return told;
    }

    public int tag(int sign, int tag) throws NoSuchElementException, IllegalArgumentException {
        requireSign(sign);
        if (tag < NONE || tag > GREATEST_TAG) {
            throw new IllegalArgumentException("no such tag");
        }
        int had = signs.tag[sign];
        signs.tag[sign] = tag;
        fresh = false;
        return had;
    }

    public int length() {
        refresh();
        return script.count;
    }

    public int letter(int i) throws IndexOutOfBoundsException {
        refresh();
        requireWithin(i, script.count);
        return script.letters[i];
    }

    public int from(int i) throws IndexOutOfBoundsException {
        refresh();
        requireWithin(i, script.count);
        return script.sources[i];
    }

    public int line(int sign) throws NoSuchElementException {
        requireSign(sign);
        refresh();
        return lines.lineOf[sign];
    }

    public int block(int sign) throws NoSuchElementException {
        requireSign(sign);
        refresh();
        return blocks.blockOfSign(segments, sign);
    }

    public int twice(int sign) throws NoSuchElementException {
        requireSign(sign);
        refresh();
        return places.doubled[sign];
    }

    public boolean space(int sign) throws NoSuchElementException {
        requireSign(sign);
        refresh();
        return segments.spaceBehind[sign];
    }

    public long share(long gap, long width) throws ArithmeticException {
        if (width == 0) {
            throw new ArithmeticException("no share of no width");
        }
        return shareOf(gap, width);
    }

    public int word(int i, int what) throws IndexOutOfBoundsException {
        refresh();
        if (i == -1) {
            return script.countWords();
        }
        if (i < 0 || what < 0 || what > 1) {
            throw new IndexOutOfBoundsException("no such word, or nothing to tell of it");
        }
        int start = script.startOfWord(i);
        if (start < 0) {
            throw new IndexOutOfBoundsException("no such word");
        }
        return what == 0 ? start : script.endOfWord(start) - start;
    }

    public int find(int c) throws IllegalArgumentException, UnsupportedOperationException {
        if (c < 0 || c > GREATEST_LETTER) {
            throw new IllegalArgumentException("no such letter");
        }
        if (c == 0) {
            refresh();
            return search.run(script);
        }
        if (search.soughtCount >= MOST_SOUGHT) {
            throw new UnsupportedOperationException("too many letters are sought");
        }
        return search.seek(c);
    }

    public int found(int i) throws IndexOutOfBoundsException {
        requireWithin(i, search.hitCount);
        return search.hits[i];
    }

    public int area(long x, long y, long x2, long y2) {
        refresh();
        int inside = 0;
        for (int i = 0; i < script.count; i++) {
            int sign = script.sources[i];
            if (sign >= 0 && isBetween(signs.x[sign], x, x2) && isBetween(signs.y[sign], y, y2)) {
                inside++;
            }
        }
        return inside;
    }

    private void requireSign(int sign) {
        if (sign < 0 || sign >= signs.count) {
            throw new NoSuchElementException("no such sign");
        }
    }

    private void requireWithin(int i, int count) {
        if (i < 0 || i >= count) {
            throw new IndexOutOfBoundsException("nothing stands there");
        }
    }

    private void refresh() {
        if (fresh) {
            return;
        }
        places.settle(signs, maps);
        lines.gather(signs, places);
        segments.cut(signs, places, lines);
        blocks.arrange(segments);
        script.write(signs, places, lines, segments, blocks);
        fresh = true;
    }

    private static boolean isCoordinate(long value) {
        return isBetween(value, -FARTHEST, FARTHEST);
    }

    private static boolean isBetween(long value, long least, long most) {
        return value >= least && value <= most;
    }

    private static boolean areLetters(int letter, int second) {
        if (letter == 0) {
            return second == 0;
        }
        return letter >= 1 && letter <= GREATEST_LETTER && second >= 0 && second <= GREATEST_LETTER;
    }

    /** Wraps around as longs do, since the document asks for it as longs. */
    private static long shareOf(long gap, long width) {
        return width == 0 ? 0 : 1000L * gap / width;
    }

    /** The signs as they were put on the page, with their turns and tags. */
    private static final class Signs {
        int count = 0;
        final int[] code = new int[MOST_SIGNS];
        final long[] x = new long[MOST_SIGNS];
        final long[] y = new long[MOST_SIGNS];
        final long[] width = new long[MOST_SIGNS];
        final int[] size = new int[MOST_SIGNS];
        final boolean[] turned = new boolean[MOST_SIGNS];
        final int[] tag = new int[MOST_SIGNS];

        int add(int newCode, long newX, long newY, long newWidth, int newSize) {
            if (count >= MOST_SIGNS) {
                return NONE;
            }
            int number = count;
            code[number] = newCode;
            x[number] = newX;
            y[number] = newY;
            width[number] = newWidth;
            size[number] = newSize;
            tag[number] = NONE;
            count = number + 1;
            return number;
        }
    }

    /** What each map tells of each code; 0 stands for no letter. */
    private static final class Maps {
        final int[] first = new int[MAPS * CODES];
        final int[] second = new int[MAPS * CODES];

        int told(int kind, int code) {
            int at = kind * CODES + code;
            if (first[at] == 0) {
                return 0;
            }
            return second[at] == 0 ? 1 : 2;
        }

        void tell(int kind, int code, int newFirst, int newSecond) {
            int at = kind * CODES + code;
            first[at] = newFirst;
            second[at] = newSecond;
        }

        /** The first map in rank that tells the code, or NONE. */
        int kindThatTells(int code) {
            for (int kind = 0; kind < MAPS; kind++) {
                if (first[kind * CODES + code] != 0) {
                    return kind;
                }
            }
            return NONE;
        }
    }

    /** Each sign's (u, v) and letters, and of which earlier sign it is a double. */
    private static final class Places {
        final long[] u = new long[MOST_SIGNS];
        final long[] v = new long[MOST_SIGNS];
        final int[] first = new int[MOST_SIGNS];
        final int[] second = new int[MOST_SIGNS];
        final int[] doubled = new int[MOST_SIGNS];

        void settle(Signs signs, Maps maps) {
            for (int s = 0; s < signs.count; s++) {
                u[s] = signs.turned[s] ? signs.y[s] : signs.x[s];
                v[s] = signs.turned[s] ? -signs.x[s] : signs.y[s];
                spell(s, signs.code[s], maps);
                doubled[s] = firstDoubled(signs, s);
            }
        }

        private void spell(int s, int code, Maps maps) {
            int kind = maps.kindThatTells(code);
            first[s] = kind < 0 ? UNKNOWN_LETTER : maps.first[kind * CODES + code];
            second[s] = kind < 0 ? 0 : maps.second[kind * CODES + code];
        }

        private int firstDoubled(Signs signs, int s) {
            for (int earlier = 0; earlier < s; earlier++) {
                if (doubled[earlier] == NONE && isDouble(signs, s, earlier)) {
                    return earlier;
                }
            }
            return NONE;
        }

        private boolean isDouble(Signs signs, int s, int earlier) {
            return first[s] == first[earlier] && second[s] == second[earlier]
                    && signs.turned[s] == signs.turned[earlier]
                    && 4 * Math.abs(u[s] - u[earlier]) <= signs.width[earlier]
                    && 4 * Math.abs(v[s] - v[earlier]) <= signs.size[earlier];
        }
    }

    /** The signs that are no doubles, row by row. */
    private static final class Lines {
        int count = 0;
        int placed = 0;
        /** Signs, line after line, each line by u. */
        final int[] row = new int[MOST_SIGNS];
        final int[] spotOf = new int[MOST_SIGNS];
        final int[] lineOf = new int[MOST_SIGNS];

        void gather(Signs signs, Places places) {
            count = 0;
            placed = 0;
            for (int s = 0; s < signs.count; s++) {
                lineOf[s] = NONE;
            }
            gatherKind(signs, places, false);
            gatherKind(signs, places, true);
            for (int spot = 0; spot < placed; spot++) {
                spotOf[row[spot]] = spot;
            }
        }

        private void gatherKind(Signs signs, Places places, boolean turned) {
            for (int step = 0; step < signs.count; step++) {
                int head = nextHead(signs, places, turned);
                if (head < 0) {
                    return;
                }
                gatherLine(signs, places, head);
            }
        }

        private int nextHead(Signs signs, Places places, boolean turned) {
            int head = NONE;
            for (int s = 0; s < signs.count; s++) {
                if (isLeft(places, s) && signs.turned[s] == turned
                        && (head < 0 || leads(places, s, head))) {
                    head = s;
                }
            }
            return head;
        }

        private boolean isLeft(Places places, int s) {
            return places.doubled[s] == NONE && lineOf[s] == NONE;
        }

        private boolean leads(Places places, int s, int head) {
            if (places.v[s] != places.v[head]) {
                return places.v[s] > places.v[head];
            }
            return places.u[s] < places.u[head];
        }

        private void gatherLine(Signs signs, Places places, int head) {
            int start = placed;
            for (int s = 0; s < signs.count; s++) {
                if (isLeft(places, s) && signs.turned[s] == signs.turned[head]
                        && 2 * (places.v[head] - places.v[s]) <= signs.size[head]) {
                    lineOf[s] = count;
                    insert(places, start, s);
                }
            }
            count++;
        }

        /** Behind those of the same u: signs come here by number. */
        private void insert(Places places, int start, int s) {
            if (placed >= MOST_SIGNS) {
                return;
            }
            int at = placed;
            while (at > start && places.u[row[at - 1]] > places.u[s]) {
                row[at] = row[at - 1];
                at--;
            }
            row[at] = s;
            placed++;
        }
    }

    /**
     * What lies between the cuts of the lines, numbered by lines, then from left to right.
     * TOP and BOTTOM are held as -TOP (upper) and -BOTTOM (lower), so that going down
     * the page is counted upward, as going right is, and one way of parting serves both.
     */
    private static final class Segments {
        int count = 0;
        final int[] segmentOf = new int[MOST_SIGNS];
        final boolean[] spaceBehind = new boolean[MOST_SIGNS];
        final boolean[] turned = new boolean[MOST_SIGNS];
        final long[] left = new long[MOST_SIGNS];
        final long[] right = new long[MOST_SIGNS];
        final long[] upper = new long[MOST_SIGNS];
        final long[] lower = new long[MOST_SIGNS];
        final int[] size = new int[MOST_SIGNS];

        void cut(Signs signs, Places places, Lines lines) {
            count = 0;
            for (int s = 0; s < signs.count; s++) {
                segmentOf[s] = NONE;
                spaceBehind[s] = false;
            }
            for (int spot = 0; spot < lines.placed; spot++) {
                int s = lines.row[spot];
                int before = spot == 0 ? NONE : lines.row[spot - 1];
                if (before >= 0 && lines.lineOf[before] == lines.lineOf[s]
                        && !isCut(signs, places, before, s)) {
                    spaceBehind[before] = isSpace(signs, places, before, s);
                    widen(signs, places, s);
                } else {
                    open(signs, places, s);
                }
            }
        }

        private long gap(Signs signs, Places places, int s, int next) {
            return places.u[next] - (places.u[s] + signs.width[s]);
        }

        private boolean isCut(Signs signs, Places places, int s, int next) {
            return gap(signs, places, s, next) >= 3L * signs.size[s];
        }

        private boolean isSpace(Signs signs, Places places, int s, int next) {
            long gap = gap(signs, places, s, next);
            return gap > 0 && signs.width[s] > 0 && shareOf(gap, signs.width[s]) >= LEAST_SHARE;
        }

        private void open(Signs signs, Places places, int s) {
            if (count >= MOST_SIGNS) {
                return;
            }
            int number = count;
            turned[number] = signs.turned[s];
            left[number] = places.u[s];
            right[number] = places.u[s] + signs.width[s];
            upper[number] = -(places.v[s] + signs.size[s]);
            lower[number] = -places.v[s];
            size[number] = signs.size[s];
            segmentOf[s] = number;
            count = number + 1;
        }

        private void widen(Signs signs, Places places, int s) {
            int number = count - 1;
            if (number < 0) {
                return;
            }
            right[number] = Math.max(right[number], places.u[s] + signs.width[s]);
            upper[number] = Math.min(upper[number], -(places.v[s] + signs.size[s]));
            lower[number] = Math.max(lower[number], -places.v[s]);
            size[number] = Math.max(size[number], signs.size[s]);
            segmentOf[s] = number;
        }
    }

    /**
     * The segments, parted along gaps. Those that are still to be parted lie in piles:
     * the pile with the greatest number is parted next, its former part going on a pile
     * above it, so that a loop does what parting within parting would do.
     */
    private static final class Blocks {
        int count = 0;
        final int[] blockOf = new int[MOST_SIGNS];
        final int[] pileOf = new int[MOST_SIGNS];
        final int[] byLeft = new int[MOST_SIGNS];
        final int[] byTop = new int[MOST_SIGNS];

        void arrange(Segments segments) {
            count = 0;
            sort(byLeft, segments.left, segments.count);
            sort(byTop, segments.upper, segments.count);
            arrangeKind(segments, false);
            arrangeKind(segments, true);
        }

        private void sort(int[] order, long[] keys, int length) {
            for (int segment = 0; segment < length; segment++) {
                int at = segment;
                while (at > 0 && keys[order[at - 1]] > keys[segment]) {
                    order[at] = order[at - 1];
                    at--;
                }
                order[at] = segment;
            }
        }

        private void arrangeKind(Segments segments, boolean turned) {
            int pile = pileUp(segments, turned);
            // A step parts a pile or closes it: fewer than two for each segment.
            for (int step = 0; step < 2 * segments.count && pile >= 0; step++) {
                if (isParted(segments, pile)) {
                    pile++;
                } else {
                    close(segments, pile);
                    pile--;
                }
            }
        }

        /** Puts all of a kind on pile 0: that pile's number, or NONE when there are none. */
        private int pileUp(Segments segments, boolean turned) {
            int pile = NONE;
            for (int segment = 0; segment < segments.count; segment++) {
                boolean fits = segments.turned[segment] == turned;
                pileOf[segment] = fits ? 0 : NONE;
                pile = fits ? 0 : pile;
            }
            return pile;
        }

        private boolean isParted(Segments segments, int pile) {
            long size = greatestSize(segments, pile);
            int length = segments.count;
            return isPartedAlong(byLeft, segments.left, segments.right, length, 2 * size, pile)
                    || isPartedAlong(byTop, segments.upper, segments.lower, length, size, pile);
        }

        private long greatestSize(Segments segments, int pile) {
            long size = 0;
            for (int segment = 0; segment < segments.count; segment++) {
                if (pileOf[segment] == pile) {
                    size = Math.max(size, segments.size[segment]);
                }
            }
            return size;
        }

        private boolean isPartedAlong(int[] order, long[] starts, long[] ends, int length,
                long leastGap, int pile) {
            int parting = NONE;
            long widest = leastGap - 1;
            long reach = 0;
            boolean isFirst = true;
            for (int i = 0; i < length; i++) {
                int segment = order[i];
                if (pileOf[segment] == pile) {
                    if (!isFirst && starts[segment] - reach > widest) {
                        widest = starts[segment] - reach;
                        parting = i;
                    }
                    reach = isFirst ? ends[segment] : Math.max(reach, ends[segment]);
                    isFirst = false;
                }
            }
            raise(order, parting, pile);
            return parting >= 0;
        }

        private void raise(int[] order, int parting, int pile) {
            for (int i = 0; i < parting; i++) {
                if (pileOf[order[i]] == pile) {
                    pileOf[order[i]] = pile + 1;
                }
            }
        }

        int blockOfSign(Segments segments, int s) {
            int segment = segments.segmentOf[s];
            return segment < 0 ? NONE : blockOf[segment];
        }

        boolean areOfOne(Segments segments, int s, int other) {
            return blockOfSign(segments, s) == blockOfSign(segments, other);
        }

        private void close(Segments segments, int pile) {
            for (int segment = 0; segment < segments.count; segment++) {
                if (pileOf[segment] == pile) {
                    pileOf[segment] = NONE;
                    blockOf[segment] = count;
                }
            }
            count++;
        }
    }

    /** The text, and of which sign each of its letters is. */
    private static final class Script {
        int count = 0;
        final int[] letters = new int[MOST_LETTERS];
        final int[] sources = new int[MOST_LETTERS];
        private final int[] order = new int[MOST_SIGNS];
        private final int[] ranks = new int[MOST_SIGNS];

        void write(Signs signs, Places places, Lines lines, Segments segments, Blocks blocks) {
            bringInOrder(signs, lines, segments, blocks);
            count = 0;
            for (int i = 0; i < lines.placed; i++) {
                int s = order[i];
                if (i > 0) {
                    link(order[i - 1], s, signs, places, lines, segments, blocks);
                }
                put(places.first[s], s);
                if (places.second[s] != 0) {
                    put(places.second[s], s);
                }
            }
        }

        private void bringInOrder(Signs signs, Lines lines, Segments segments, Blocks blocks) {
            for (int spot = 0; spot < lines.placed; spot++) {
                int s = lines.row[spot];
                ranks[s] = rank(signs.tag[s], blocks.blockOfSign(segments, s), spot);
                int at = spot;
                while (at > 0 && ranks[order[at - 1]] > ranks[s]) {
                    order[at] = order[at - 1];
                    at--;
                }
                order[at] = s;
            }
        }

        /** Spots grow with lines and segments, so they put a block's segments in order, too. */
        private int rank(int tag, int block, int spot) {
            int tagRank = tag < 0 ? GREATEST_TAG + 1 : tag;
            return (tagRank * MOST_SIGNS + block) * MOST_SIGNS + spot;
        }

        private void link(int earlier, int later, Signs signs, Places places, Lines lines,
                Segments segments, Blocks blocks) {
            boolean sameSegment = segments.segmentOf[earlier] == segments.segmentOf[later];
            if (sameSegment && lines.spotOf[later] == lines.spotOf[earlier] + 1) {
                if (segments.spaceBehind[earlier]) {
                    put(BLANK, NONE);
                }
            } else if (!sameSegment && signs.tag[earlier] == signs.tag[later]
                    && blocks.areOfOne(segments, earlier, later)) {
                joinOrPart(places.first[later]);
            } else {
                put(LINE_FEED, NONE);
            }
        }

        private void joinOrPart(int laterLetter) {
            boolean isSmall = laterLetter >= 97 && laterLetter <= 122;
            if (isSmall && count > 0 && letters[count - 1] == HYPHEN) {
                count--;
            } else {
                put(BLANK, NONE);
            }
        }

        private void put(int newLetter, int source) {
            if (count < MOST_LETTERS) {
                letters[count] = newLetter;
                sources[count] = source;
                count++;
            }
        }

        int countWords() {
            int words = 0;
            for (int i = 0; i < count; i++) {
                if (startsWord(i)) {
                    words++;
                }
            }
            return words;
        }

        /** Where a word begins, or NONE when there are not so many. */
        int startOfWord(int number) {
            int words = 0;
            for (int i = 0; i < count; i++) {
                if (startsWord(i)) {
                    if (words == number) {
                        return i;
                    }
                    words++;
                }
            }
            return NONE;
        }

        int endOfWord(int start) {
            int end = start;
            while (end < count && isInWord(end)) {
                end++;
            }
            return end;
        }

        private boolean startsWord(int i) {
            return isInWord(i) && (i == 0 || !isInWord(i - 1));
        }

        private boolean isInWord(int i) {
            return letters[i] != LINE_FEED && letters[i] != BLANK;
        }
    }

    /** The letters that are sought, and where those of the latest search began. */
    private static final class Search {
        int soughtCount = 0;
        int hitCount = 0;
        final int[] hits = new int[MOST_LETTERS];
        private final int[] sought = new int[MOST_SOUGHT];

        int seek(int c) {
            if (soughtCount < MOST_SOUGHT) {
                sought[soughtCount] = c;
                soughtCount++;
            }
            return soughtCount;
        }

        int run(Script script) {
            hitCount = 0;
            int last = soughtCount == 0 ? NONE : script.count - soughtCount;
            for (int i = 0; i <= last; i++) {
                if (isAt(script, i)) {
                    hits[hitCount] = i;
                    hitCount++;
                }
            }
            soughtCount = 0;
            return hitCount;
        }

        private boolean isAt(Script script, int start) {
            for (int k = 0; k < soughtCount; k++) {
                if (plain(script.letters[start + k]) != plain(sought[k])) {
                    return false;
                }
            }
            return true;
        }

        /** An end of a line parts words as a blank does. */
        private int plain(int c) {
            return c == LINE_FEED ? BLANK : c;
        }
    }
}
