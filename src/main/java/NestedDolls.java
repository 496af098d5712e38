import java.util.Arrays;

/** Wooden dolls within dolls, as ../shared/DOC.md promises; words in capitals are that document's terms. */
public final class NestedDolls {
    public static final int UNKNOWN = -1, OUTSIDE = -2, STATE = -3, FULL = -4, NONE = -9;
    public static final long LOST = Long.MIN_VALUE;

    private static final int NO_FAULT = 0, NULL = 1, CAST = 2, INDEX = 3, SIZE = 4;
    private static final int PLAIN = 0, BRUSHED = 1, SWOLLEN = 2;
    private static final int BYTES = 0, SHORTS = 1, INTS = 2;
    private static final int MOST_DOLLS = 4, MOST_READINGS = 8, MOST_SHEETS = 4, MOST_CELLS = 60;
    private static final int ACTS = 28, LONGEST_DAY = 20, LONGEST_ROW = 60;
    private static final int LEAST_GIRTH = 1, MOST_GIRTH = 9, MOST_ROOM = 9;

    /** What is known of a DOLL wherever it is. */
    private static final class Doll {
        int kind, girth = LEAST_GIRTH, room;

        int wide() {
            if (kind == BRUSHED) {
                return girth + 1;
            }
            return kind == SWOLLEN ? 2 * girth : girth;
        }

        boolean goesInto(Doll other) {
            return wide() <= other.room;
        }
    }

    /** A SHEET keeps one row of ints for all LANES, so that a new row costs nothing. */
    private static final class Sheet {
        private static final int NOTHING = -1;
        private final int[] cells = new int[MOST_CELLS];
        private int laneOfRow = NOTHING, size;

        boolean hasNothing() {
            return laneOfRow == NOTHING;
        }

        boolean isLike(Sheet other) {
            return laneOfRow == other.laneOfRow;
        }

        void renew(int lane, int n) {
            laneOfRow = lane;
            size = Math.max(0, Math.min(n, MOST_CELLS));
            Arrays.fill(cells, 0);
        }

        void clear() {
            laneOfRow = NOTHING;
            size = 0;
        }

        int at(int i) {
            return i >= 0 && i < size ? cells[i] : 0;
        }

        void write(int i, int v) {
            if (i >= 0 && i < size) {
                cells[i] = cut(v);
            }
        }

        private int cut(int v) {
            if (laneOfRow == BYTES) {
                return (byte) v;
            }
            return laneOfRow == SHORTS ? (short) v : v;
        }

        boolean hasCells(int i, int n) {
            return n >= 0 && i >= 0 && i <= size && n <= size - i;
        }

        /** The first FAULT on the way to n cells from i on. */
        int faultOf(int lane, int i, int n) {
            if (hasNothing()) {
                return NULL;
            }
            if (laneOfRow != lane) {
                return CAST;
            }
            if (n < 0) {
                return SIZE;
            }
            return hasCells(i, n) ? NO_FAULT : INDEX;
        }

        boolean isWithin(int i, int n, int least, int most) {
            for (int p = 0; p < n; p++) {
                int v = at(i + p);
                if (v < least || v > most) {
                    return false;
                }
            }
            return true;
        }

        void send(int i, Sheet other, int j, int n) {
            if (hasCells(i, n) && other.hasCells(j, n)) {
                System.arraycopy(cells, i, other.cells, j, n);
            }
        }
    }

    /** How a TEXT is read. */
    private static final class Text {
        private static final int LENGTH_OF_DOLL = 4;
        private static final int LONGEST = 1 + LENGTH_OF_DOLL * MOST_DOLLS;

        static int firstFault(Sheet sheet, int i, int n) {
            for (int p = 0; p < n; p++) {
                if (!goesOn(p, sheet.at(i + p), sheet.at(i + p - 1))) {
                    return p;
                }
            }
            return n > 1 && n % LENGTH_OF_DOLL == 1 ? NONE : n;
        }

        private static boolean goesOn(int p, int code, int before) {
            if (p == 0) {
                return code == 'n';
            }
            if (p >= LONGEST) {
                return false;
            }
            switch ((p - 1) % LENGTH_OF_DOLL) {
                case 0:
                    return code == ';';
                case 1:
                    return kindOf(code) != NONE;
                case 2:
                    return code >= '1' && code <= '9';
                default:
                    return code >= '0' && code < before;
            }
        }

        static int dollsIn(int n) {
            return Math.min(MOST_DOLLS, (n - 1) / LENGTH_OF_DOLL);
        }

        static void tellDoll(Sheet sheet, int i, int d, Doll doll) {
            int letter = i + 1 + LENGTH_OF_DOLL * d + 1;
            doll.kind = kindOf(sheet.at(letter));
            doll.girth = sheet.at(letter + 1) - '0';
            doll.room = sheet.at(letter + 2) - '0';
        }

        private static int kindOf(int code) {
            switch (code) {
                case 'p':
                    return PLAIN;
                case 'b':
                    return BRUSHED;
                case 's':
                    return SWOLLEN;
                default:
                    return NONE;
            }
        }
    }

    /**
     * How all is at one time, as one int, so that a DAY or a search needs no objects:
     * three bits for where each DOLL is, then one bit for each DOLL that is OPEN.
     */
    private static final class Stand {
        private static final int BITS_OF_PLACE = 3, PLACE = 7, OPEN_FROM = 12, DOLLS = 15;
        static final int ALL_ON_TABLE = 0, MOST_STANDS = 1 << 16;

        static int placeOf(int stand, int d) {
            return stand >> (BITS_OF_PLACE * d) & PLACE;
        }

        static int moved(int stand, int d, int place) {
            int shift = BITS_OF_PLACE * d;
            return stand & ~(PLACE << shift) | place << shift;
        }

        static int openSet(int stand) {
            return stand >> OPEN_FROM & DOLLS;
        }

        static boolean isOpen(int stand, int d) {
            return has(openSet(stand), d);
        }

        static int tableSet(int stand, int count) {
            int set = 0;
            for (int d = 0; d < count; d++) {
                if (placeOf(stand, d) == 0) {
                    set |= 1 << d;
                }
            }
            return set;
        }

        static int handSet(int stand, int count) {
            int set = 0;
            for (int d = 0; d < count; d++) {
                if (canBeGotAt(stand, d)) {
                    set |= 1 << d;
                }
            }
            return set;
        }

        private static boolean canBeGotAt(int stand, int d) {
            int open = openSet(stand);
            int place = placeOf(stand, d);
            for (int step = 0; step < MOST_DOLLS && place != 0; step++) {
                if (!has(open, place - 1)) {
                    return false;
                }
                place = placeOf(stand, place - 1);
            }
            return true;
        }

        /** Those in which one of these is. */
        private static int outersOf(int stand, int inners) {
            int set = 0;
            for (int d = 0; d < MOST_DOLLS; d++) {
                int place = placeOf(stand, d);
                if (has(inners, d) && place != 0) {
                    set |= 1 << (place - 1);
                }
            }
            return set;
        }

        static int innerOf(int stand, int e, int count) {
            for (int d = 0; d < count; d++) {
                if (placeOf(stand, d) == e + 1) {
                    return d;
                }
            }
            return NONE;
        }

        static int manyWithin(int stand, int e, int count) {
            int inner = innerOf(stand, e, count);
            int many = 0;
            for (int step = 0; step < MOST_DOLLS && inner != NONE; step++) {
                many++;
                inner = innerOf(stand, inner, count);
            }
            return many;
        }

        static int mostWithin(int stand, int count) {
            int most = 0;
            for (int d = 0; d < count; d++) {
                most = Math.max(most, manyWithin(stand, d, count));
            }
            return most;
        }

        /** The ACTS that can be; fitting has bit 4 d and e, if DOLL d FITS into DOLL e. */
        static int doable(int stand, int count, int fitting) {
            int hand = handSet(stand, count);
            int table = tableSet(stand, count);
            int open = openSet(stand);
            int takers = hand & open & ~outersOf(stand, DOLLS);
            int set = hand & ~open;
            set |= (hand & open & ~outersOf(stand, open)) << 4;
            set |= (hand & ~table) << 8;
            for (int d = 0; d < count; d++) {
                if (has(table & ~open, d)) {
                    set |= (takers & fitting >> 4 * d) << 12 + 4 * d;
                }
            }
            return set;
        }

        static int after(int stand, int act) {
            if (act < 4) {
                return stand | 1 << OPEN_FROM + act;
            }
            if (act < 8) {
                return stand & ~(1 << OPEN_FROM + act - 4);
            }
            if (act < 12) {
                return moved(stand, act - 8, 0);
            }
            return moved(stand, (act - 12) / 4, (act - 12) % 4 + 1);
        }
    }

    /** All STANDS, nearest first; kept, as calls about the same ones often follow one another. */
    private static final class Search {
        // A chain of m DOLLS can be OPEN in m + 1 ways (from without); over all nests of 4 that makes 580.
        private static final int MOST = 580;
        private final int[] reached = new int[MOST], from = new int[MOST], by = new int[MOST];
        private final long[] seen = new long[Stand.MOST_STANDS / 64];
        private int many, count, fitting;

        void go(int start, int countNow, int fittingNow) {
            if (many > 0 && reached[0] == start && count == countNow && fitting == fittingNow) {
                return;
            }
            Arrays.fill(seen, 0L);
            many = 0;
            count = countNow;
            fitting = fittingNow;
            reach(start, 0, 0);
            for (int at = 0; at < many && at < MOST; at++) {
                goOn(at);
            }
        }

        // Lesser ACTS go first, so a STAND is first come to by the first of the shortest rows to it.
        private void goOn(int at) {
            int set = Stand.doable(reached[at], count, fitting);
            for (int act = 0; act < ACTS; act++) {
                if (has(set, act)) {
                    reach(Stand.after(reached[at], act), at, act);
                }
            }
        }

        private void reach(int stand, int at, int act) {
            int word = stand >> 6 & seen.length - 1;
            long bit = 1L << (stand & 63);
            if ((seen[word] & bit) != 0 || many >= MOST) {
                return;
            }
            seen[word] |= bit;
            reached[many] = stand;
            from[many] = at;
            by[many] = act;
            many++;
        }

        int howMany(int what) {
            int sum = 0;
            for (int at = 0; at < many; at++) {
                if (isOf(what, reached[at])) {
                    sum++;
                }
            }
            return sum;
        }

        private boolean isOf(int what, int stand) {
            switch (what) {
                case 1:
                    return Stand.openSet(stand) == 0;
                case 2:
                    return Integer.bitCount(Stand.tableSet(stand, count)) == 1;
                case 3:
                    return Integer.bitCount(Stand.handSet(stand, count)) == count;
                default:
                    return true;
            }
        }

        int find(int stand) {
            for (int at = 0; at < many; at++) {
                if (reached[at] == stand) {
                    return at;
                }
            }
            return NONE;
        }

        int lengthTo(int end) {
            int length = 0;
            for (int at = end; at > 0 && at < many && length < MOST; at = from[at]) {
                length++;
            }
            return length;
        }

        int actTo(int end, int k) {
            int place = lengthTo(end) - 1;
            for (int at = end; at > 0 && at < many && place >= k; at = from[at]) {
                if (place == k) {
                    return by[at];
                }
                place--;
            }
            return NONE;
        }
    }

    private final Doll[] row = new Doll[MOST_DOLLS];
    private final Sheet[] sheets = new Sheet[MOST_SHEETS];
    private final int[] readFirst = new int[MOST_READINGS], readSecond = new int[MOST_READINGS];
    private final boolean[] readFits = new boolean[MOST_READINGS];
    private final Search search = new Search();
    private int count, stand, acts, readings, traced, latestFault;

    public NestedDolls() {
        for (int d = 0; d < MOST_DOLLS; d++) {
            row[d] = new Doll();
        }
        for (int k = 0; k < MOST_SHEETS; k++) {
            sheets[k] = new Sheet();
        }
    }

    // ---- 1 dolls

    public int dolls(int sheet, int lane, int i, int n) {
        latestFault = NO_FAULT;
        if (!isSheet(sheet)) {
            return UNKNOWN;
        }
        if (!isLane(lane)) {
            return OUTSIDE;
        }
        int fault = sheets[sheet].faultOf(lane, i, n);
        if (fault != NO_FAULT) {
            return come(fault);
        }
        int wrong = Text.firstFault(sheets[sheet], i, n);
        if (wrong != NONE) {
            return -100 - wrong;
        }
        take(sheets[sheet], i, n);
        return count;
    }

    private void take(Sheet text, int i, int n) {
        count = Text.dollsIn(n);
        for (int d = 0; d < count; d++) {
            Text.tellDoll(text, i, d, row[d]);
        }
        stand = Stand.ALL_ON_TABLE;
        acts = 0;
        readings = 0;
    }

    public int ofDoll(int d, int what) {
        if (!isDoll(d)) {
            return UNKNOWN;
        }
        switch (what) {
            case 0:
                return row[d].kind;
            case 1:
                return row[d].girth;
            case 2:
                return row[d].room;
            case 3:
                return row[d].wide();
            case 4:
                return Stand.placeOf(stand, d);
            case 5:
                return oneIf(Stand.isOpen(stand, d));
            case 6:
                return oneIf(has(Stand.handSet(stand, count), d));
            case 7:
                return Stand.innerOf(stand, d, count);
            case 8:
                return Stand.manyWithin(stand, d, count);
            default:
                return OUTSIDE;
        }
    }

    public int girth(int d, int v) {
        if (!isDoll(d)) {
            return UNKNOWN;
        }
        if (v < LEAST_GIRTH || v > MOST_GIRTH || v <= row[d].room) {
            return OUTSIDE;
        }
        int was = row[d].girth;
        row[d].girth = v;
        return was;
    }

    public int room(int d, int v) {
        if (!isDoll(d)) {
            return UNKNOWN;
        }
        if (v < 0 || v > MOST_ROOM || v >= row[d].girth) {
            return OUTSIDE;
        }
        int was = row[d].room;
        row[d].room = v;
        return was;
    }

    public int fits(int a, int b) {
        if (!areTwo(a, b)) {
            return UNKNOWN;
        }
        return oneIf(row[a].goesInto(row[b]));
    }

    // ---- 2 acts

    public int act(int act) {
        if (!isAct(act)) {
            return OUTSIDE;
        }
        if (count == 0 || !has(doableAt(stand), act)) {
            return STATE;
        }
        stand = Stand.after(stand, act);
        acts++;
        return manyOnTable(stand);
    }

    public int anew() {
        if (count == 0) {
            return STATE;
        }
        int were = count - manyOnTable(stand);
        stand = Stand.ALL_ON_TABLE;
        return were;
    }

    public int can() {
        return count == 0 ? STATE : doableAt(stand);
    }

    public int day(int sheet, int lane, int i, int n, int what) {
        latestFault = NO_FAULT;
        if (!isSheet(sheet)) {
            return UNKNOWN;
        }
        if (!isLane(lane) || n < 0 || n > LONGEST_DAY || !isAskedOfDay(what)) {
            return OUTSIDE;
        }
        int fault = sheets[sheet].faultOf(lane, i, n);
        if (fault != NO_FAULT) {
            return come(fault);
        }
        if (count == 0) {
            return STATE;
        }
        if (!sheets[sheet].isWithin(i, n, 0, ACTS - 1)) {
            return OUTSIDE;
        }
        int wrong = firstWrong(sheets[sheet], i, n);
        if (what == 1) {
            return wrong;
        }
        return wrong != NONE ? -100 - wrong : ofStand(standAfter(sheets[sheet], i, n), what);
    }

    private static boolean isAskedOfDay(int what) {
        return what >= 0 && what <= 4 || what >= 10 && what < 10 + MOST_DOLLS;
    }

    private int firstWrong(Sheet sheet, int i, int n) {
        int then = stand;
        for (int p = 0; p < n; p++) {
            int act = sheet.at(i + p);
            if (!isAct(act) || !has(doableAt(then), act)) {
                return p;
            }
            then = Stand.after(then, act);
        }
        return NONE;
    }

    private int standAfter(Sheet sheet, int i, int n) {
        int then = stand;
        for (int p = 0; p < n; p++) {
            then = Stand.after(then, sheet.at(i + p));
        }
        return then;
    }

    private int ofStand(int then, int what) {
        switch (what) {
            case 0:
                return manyOnTable(then);
            case 2:
                return Stand.openSet(then);
            case 3:
                return Stand.handSet(then, count);
            case 4:
                return Stand.mostWithin(then, count);
            default:
                return isDoll(what - 10) ? Stand.placeOf(then, what - 10) : NONE;
        }
    }

    private int doableAt(int then) {
        return Stand.doable(then, count, fitting());
    }

    private int manyOnTable(int then) {
        return Integer.bitCount(Stand.tableSet(then, count));
    }

    // ---- 3 nests

    public int fewest(int sheet, int lane, int i, int k) {
        latestFault = NO_FAULT;
        if (count == 0) {
            return STATE;
        }
        if (!isSheet(sheet)) {
            return UNKNOWN;
        }
        if (!isLane(lane) || k < -1 || k >= LONGEST_ROW) {
            return OUTSIDE;
        }
        int fault = sheets[sheet].faultOf(lane, i, count);
        if (fault != NO_FAULT) {
            return come(fault);
        }
        if (!sheets[sheet].isWithin(i, count, 0, count)) {
            return OUTSIDE;
        }
        search.go(stand, count, fitting());
        int end = search.find(nestTold(sheets[sheet], i));
        if (end == NONE) {
            return NONE;
        }
        return k == -1 ? search.lengthTo(end) : search.actTo(end, k);
    }

    private int nestTold(Sheet sheet, int i) {
        int told = Stand.ALL_ON_TABLE;
        for (int d = 0; d < count; d++) {
            told = Stand.moved(told, d, sheet.at(i + d));
        }
        return told;
    }

    public int stands(int what) {
        if (what < 0 || what > 3) {
            return OUTSIDE;
        }
        if (count == 0) {
            return STATE;
        }
        search.go(stand, count, fitting());
        return search.howMany(what);
    }

    public int tidy(int k) {
        if (k < -1 || k >= MOST_DOLLS) {
            return OUTSIDE;
        }
        if (count == 0) {
            return STATE;
        }
        if (k >= count) {
            return NONE;
        }
        int fitting = fitting();
        return k == -1 ? leastOnTable(0, 0, count, fitting) : tidyPlace(k, fitting);
    }

    private int tidyPlace(int k, int fitting) {
        int taken = 0;
        int place = 0;
        for (int d = 0; d <= k; d++) {
            place = firstPlace(d, taken, count, fitting);
            if (place > 0) {
                taken |= 1 << (place - 1);
            }
        }
        return place;
    }

    /** The first place of DOLL d that leaves the least on the TABLE, of d and those behind it. */
    private static int firstPlace(int d, int taken, int count, int fitting) {
        int least = leastOnTable(d, taken, count, fitting);
        for (int place = 0; place <= count; place++) {
            if (isFree(d, place, taken, fitting) && least == leastWith(d, place, taken, count, fitting)) {
                return place;
            }
        }
        return 0;
    }

    /** The least on the TABLE of DOLL d and those behind it; taken: those in which one is already. */
    private static int leastOnTable(int d, int taken, int count, int fitting) {
        if (d >= count) {
            return 0;
        }
        int least = MOST_DOLLS;
        for (int place = 0; place <= count; place++) {
            if (isFree(d, place, taken, fitting)) {
                least = Math.min(least, leastWith(d, place, taken, count, fitting));
            }
        }
        return least;
    }

    private static int leastWith(int d, int place, int taken, int count, int fitting) {
        if (place == 0) {
            return 1 + leastOnTable(d + 1, taken, count, fitting);
        }
        return leastOnTable(d + 1, taken | 1 << (place - 1), count, fitting);
    }

    private static boolean isFree(int d, int place, int taken, int fitting) {
        return place == 0 || !has(taken, place - 1) && has(fitting, 4 * d + place - 1);
    }

    public int chain() {
        if (count == 0) {
            return STATE;
        }
        int fitting = fitting();
        int most = 0;
        for (int d = 0; d < count; d++) {
            most = Math.max(most, longestFrom(d, 1, count, fitting));
        }
        return most;
    }

    private static int longestFrom(int d, int length, int count, int fitting) {
        int most = length;
        for (int e = 0; e < count && length < count; e++) {
            if (has(fitting, 4 * d + e)) {
                most = Math.max(most, longestFrom(e, length + 1, count, fitting));
            }
        }
        return most;
    }

    /** Which FITS into which: bit 4 d and e, if DOLL d FITS into DOLL e. */
    private int fitting() {
        int set = 0;
        for (int d = 0; d < count; d++) {
            for (int e = 0; e < count; e++) {
                if (d != e && row[d].goesInto(row[e])) {
                    set |= 1 << (4 * d + e);
                }
            }
        }
        return set;
    }

    // ---- 4 what fitted

    public int reading(int a, int b, int fits) {
        if (!areTwo(a, b)) {
            return UNKNOWN;
        }
        if (fits != 0 && fits != 1) {
            return OUTSIDE;
        }
        if (readings >= MOST_READINGS) {
            return FULL;
        }
        readFirst[readings] = a;
        readSecond[readings] = b;
        readFits[readings] = fits == 1;
        readings++;
        return readings - 1;
    }

    public int back(int n) {
        if (n < 0 || n > readings) {
            return OUTSIDE;
        }
        readings -= n;
        return readings;
    }

    public int girths(int d) {
        if (!isDoll(d)) {
            return UNKNOWN;
        }
        int was = row[d].girth;
        int set = 0;
        for (int v = LEAST_GIRTH; v <= MOST_GIRTH; v++) {
            row[d].girth = v;
            set |= oneIf(readingsAreSo()) << v;
        }
        row[d].girth = was;
        return set;
    }

    public int rooms(int d) {
        if (!isDoll(d)) {
            return UNKNOWN;
        }
        int was = row[d].room;
        int set = 0;
        for (int v = 0; v <= MOST_ROOM; v++) {
            row[d].room = v;
            set |= oneIf(readingsAreSo()) << v;
        }
        row[d].room = was;
        return set;
    }

    public int kinds(int d) {
        if (!isDoll(d)) {
            return UNKNOWN;
        }
        int was = row[d].kind;
        int set = 0;
        for (int v = PLAIN; v <= SWOLLEN; v++) {
            row[d].kind = v;
            set |= oneIf(readingsAreSo()) << v;
        }
        row[d].kind = was;
        return set;
    }

    private boolean readingsAreSo() {
        for (int r = 0; r < readings && r < MOST_READINGS; r++) {
            int a = readFirst[r];
            int b = readSecond[r];
            if (areTwo(a, b) && row[a].goesInto(row[b]) != readFits[r]) {
                return false;
            }
        }
        return true;
    }

    public long odds(int which) {
        if (which != 0 && which != 1 || count < 2) {
            return LOST;
        }
        int upper = Integer.bitCount(fitting());
        int lower = count * (count - 1);
        int by = commonDivisor(upper, lower);
        return (which == 0 ? upper : lower) / by;
    }

    private static int commonDivisor(int upper, int lower) {
        for (int by = lower; by > 1; by--) {
            if (upper % by == 0 && lower % by == 0) {
                return by;
            }
        }
        return 1;
    }

    // ---- 5 sheets, parts

    public int sheet(int k, int lane, int n) {
        latestFault = NO_FAULT;
        if (!isSheet(k)) {
            return UNKNOWN;
        }
        if (!isLane(lane) || n > MOST_CELLS) {
            return OUTSIDE;
        }
        if (n < 0) {
            return come(SIZE);
        }
        sheets[k].renew(lane, n);
        return 1;
    }

    public int lose(int k) {
        if (!isSheet(k)) {
            return UNKNOWN;
        }
        if (sheets[k].hasNothing()) {
            return 0;
        }
        sheets[k].clear();
        return 1;
    }

    public int put(int k, int i, int v) {
        latestFault = NO_FAULT;
        if (!isSheet(k)) {
            return UNKNOWN;
        }
        if (sheets[k].hasNothing()) {
            return come(NULL);
        }
        if (!sheets[k].hasCells(i, 1)) {
            return come(INDEX);
        }
        sheets[k].write(i, v);
        return 1;
    }

    public long cell(int k, int i, int lane) {
        latestFault = NO_FAULT;
        if (!isSheet(k) || !isLane(lane)) {
            return LOST;
        }
        latestFault = sheets[k].faultOf(lane, i, 1);
        return latestFault == NO_FAULT ? sheets[k].at(i) : LOST;
    }

    public int copy(int k, int i, int other, int j, int n) {
        latestFault = NO_FAULT;
        if (!isSheet(k) || !isSheet(other)) {
            return UNKNOWN;
        }
        if (sheets[k].hasNothing() || sheets[other].hasNothing()) {
            return come(NULL);
        }
        if (!sheets[k].isLike(sheets[other])) {
            return come(CAST);
        }
        if (!sheets[k].hasCells(i, n) || !sheets[other].hasCells(j, n)) {
            return come(INDEX);
        }
        sheets[k].send(i, sheets[other], j, n);
        return n;
    }

    public int tell(int d) {
        if (!isDoll(d)) {
            return UNKNOWN;
        }
        switch (row[d].kind) {
            case BRUSHED:
                return tellBrushed(row[d]);
            case SWOLLEN:
                return tellSwollen(row[d]);
            default:
                return tellPlain(row[d]);
        }
    }

    private int tellPlain(Doll doll) {
        leave(1);
        return doll.girth;
    }

    private int tellBrushed(Doll doll) {
        leave(2);
        return tellPlain(doll) + 100;
    }

    private int tellSwollen(Doll doll) {
        leave(3);
        int brushed = tellBrushed(doll);
        return brushed + tellPlain(doll);
    }

    public int shake(int d) {
        if (!isDoll(d)) {
            return UNKNOWN;
        }
        if (row[d].kind == SWOLLEN) {
            leave(5);
            return 40;
        }
        leave(4);
        return row[d].room;
    }

    private void leave(int number) {
        traced = 31 * traced + number;
    }

    public int as(int d, int kind) {
        latestFault = NO_FAULT;
        if (!isDoll(d)) {
            return UNKNOWN;
        }
        if (kind < PLAIN || kind > SWOLLEN) {
            return OUTSIDE;
        }
        return row[d].kind < kind ? come(CAST) : 1;
    }

    public int trace() {
        return traced;
    }

    public int fault() {
        return latestFault;
    }

    public int many(int what) {
        switch (what) {
            case 0:
                return count;
            case 1:
                return manyOnTable(stand);
            case 2:
                return Integer.bitCount(Stand.openSet(stand));
            case 3:
                return acts;
            case 4:
                return readings;
            default:
                return OUTSIDE;
        }
    }

    // ---- what is shared by the parts

    private int come(int fault) {
        latestFault = fault;
        return -10 - fault;
    }

    private boolean isDoll(int d) {
        return d >= 0 && d < count;
    }

    private boolean areTwo(int a, int b) {
        return isDoll(a) && isDoll(b) && a != b;
    }

    private static boolean isSheet(int k) {
        return k >= 0 && k < MOST_SHEETS;
    }

    private static boolean isLane(int lane) {
        return lane >= BYTES && lane <= INTS;
    }

    private static boolean isAct(int act) {
        return act >= 0 && act < ACTS;
    }

    private static boolean has(int set, int k) {
        return (set >> k & 1) != 0;
    }

    private static int oneIf(boolean so) {
        return so ? 1 : 0;
    }
}
