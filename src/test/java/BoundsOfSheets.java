/** Each sentence of part 5 and of promises 21 to 31 that names a boundary case, by a test of its own. */
public final class BoundsOfSheets extends Sentences {
    private static final int[] VALUES = {0, 1, -1, 127, 128, -128, -129, 255, 256, -256, 32767, 32768, -32768, -32769,
        65535, 65536, FAR, LOW};

    public static void main(String[] args) {
        sheetsNoughtToThree();
        noughtToSixtyNumbers();
        noughtAtFirst();
        cutToLane();
        traceWraps();
        tellings();
        shakes();
        sheetAnswers();
        sheetRefusals();
        sheetSize();
        loseAnswers();
        loseUnknown();
        putAnswers();
        putUnknown();
        putNull();
        putIndex();
        cellAnswers();
        cellRefusals();
        cellFaults();
        copyAnswers();
        copyAsTheyWere();
        copyUnknown();
        copyNull();
        copyCast();
        copyIndex();
        tellUnknown();
        shakeUnknown();
        asAnswers();
        asRefusals();
        asCast();
        traceAnswers();
        faultOfLatestCall();
        faultOfNone();
        faultAheadOfAny();
        faultOfCallsThatNameNone();
        manyAnswers();
        manyActs();
        manyWithoutDolls();
        manyOutside();
        end();
    }

    private static NestedDolls rows() {
        NestedDolls x = none();
        write(x, 0, BYTES, 1, 2, 3, 4, 5);
        write(x, 1, BYTES, 6, 7, 8);
        write(x, 2, INTS, 9, 10, 11);
        return x;
    }

    // ---- part 5

    private static void sheetsNoughtToThree() {
        says("part 5", "SHEETS 0 .. 3 have nothing (at first)");
        for (int k = 0; k <= 3; k++) {
            due("sheet " + k, rowOf(none(), k), "nothing");
            NestedDolls x = none();
            due("a row for " + k, x.sheet(k, INTS, 1), 1);
            x.put(k, 0, 7);
            for (int other = 0; other <= 3; other++) {
                due("sheet " + other, rowOf(x, other), other == k ? "2: 7" : "nothing");
            }
        }
        due("no fourth one", none().lose(4), UNKNOWN);
    }

    private static void noughtToSixtyNumbers() {
        says("part 5", "or a row of 0 .. 60 numbers");
        for (int lane = BYTES; lane <= INTS; lane++) {
            for (int n : new int[] {0, 1, 59, 60}) {
                NestedDolls x = none();
                due("a row of " + n, x.sheet(3, lane, n), 1);
                due("its last cell", x.put(3, n - 1, 5), n == 0 ? INDEX : 1);
                due("one beyond", x.put(3, n, 5), INDEX);
                due("its last cell then", x.cell(3, n - 1, lane), n == 0 ? LOST : 5);
            }
            due("a row of 61", none().sheet(3, lane, 61), OUTSIDE);
        }
    }

    private static void noughtAtFirst() {
        says("part 5", "(0 at first)");
        NestedDolls x = none();
        write(x, 0, BYTES, 1, 2, 3);
        x.sheet(0, BYTES, 3);
        due("a new row of the same lane", rowOf(x, 0), "0: 0 0 0");
        write(x, 0, BYTES, 1, 2, 3);
        x.sheet(0, INTS, 4);
        due("a new row of another lane", rowOf(x, 0), "2: 0 0 0 0");
        write(x, 0, SHORTS, 1, 2, 3);
        x.sheet(0, SHORTS, 1);
        x.sheet(0, SHORTS, 3);
        due("a longer row behind a shorter one", rowOf(x, 0), "1: 0 0 0");
        write(x, 0, SHORTS, 1, 2, 3);
        x.lose(0);
        x.sheet(0, SHORTS, 3);
        due("a row behind nothing", rowOf(x, 0), "1: 0 0 0");
    }

    private static void cutToLane() {
        says("part 5", "of a LANE: 0 bytes, 1 shorts, 2 ints; what comes to a cell of it is cut to its LANE.");
        for (int v : VALUES) {
            NestedDolls x = none();
            write(x, 0, BYTES, v);
            write(x, 1, SHORTS, v);
            write(x, 2, INTS, v);
            due("a byte of " + v, x.cell(0, 0, BYTES), (byte) v);
            due("a short of " + v, x.cell(1, 0, SHORTS), (short) v);
            due("an int of " + v, x.cell(2, 0, INTS), v);
        }
    }

    private static int traced(int from, int... numbers) {
        java.math.BigInteger trace = java.math.BigInteger.valueOf(from);
        for (int number : numbers) {
            trace = trace.multiply(java.math.BigInteger.valueOf(31)).add(java.math.BigInteger.valueOf(number));
        }
        return trace.intValue();
    }

    private static void traceWraps() {
        says("part 5", "TRACE (an int that wraps, 0 at first, becomes 31 times it and the number)");
        NestedDolls x = of("n;p98");
        due("at first", x.trace(), 0);
        int trace = 0;
        boolean wasBelow = false;
        for (int k = 0; k < 60; k++) {
            x.tell(0);
            trace = traced(trace, 1);
            due("behind " + (k + 1), x.trace(), trace);
            wasBelow |= trace < 0;
        }
        due("whether it wrapped", wasBelow, true);
        due("a body of number 5", of("n;s98").shake(0), 40);
    }

    private static void tellings() {
        says("part 5", "PLAIN (1): GIRTH. BRUSHED (2): what PLAIN's gives, and 100. SWOLLEN (3): what BRUSHED's gives, and "
            + "what PLAIN's gives (BRUSHED's left out).");
        for (int girth = 1; girth <= 9; girth++) {
            NestedDolls x = of("n;p" + girth + "0;b" + girth + "0;s" + girth + "0");
            due("plain", x.tell(0), girth);
            due("its trace", x.trace(), traced(0, 1));
            due("brushed", x.tell(1), girth + 100);
            due("its trace", x.trace(), traced(0, 1, 2, 1));
            due("swollen", x.tell(2), 2 * girth + 100);
            due("its trace", x.trace(), traced(0, 1, 2, 1, 3, 2, 1, 1));
        }
    }

    private static void shakes() {
        says("part 5", "SHAKEN by a lent body (4): its ROOM; SWOLLEN ones have their own (5): 40.");
        for (int room = 0; room <= 8; room++) {
            NestedDolls x = of("n;p9" + room + ";b9" + room + ";s9" + room);
            due("plain", x.shake(0), room);
            due("brushed", x.shake(1), room);
            due("swollen", x.shake(2), 40);
            due("trace", x.trace(), traced(0, 4, 4, 5));
        }
    }

    // ---- promises 21, 22

    private static void sheetAnswers() {
        says("promise 21", "A SHEET gets a new row: 1.");
        NestedDolls x = busy();
        due("in place of another one", x.sheet(0, INTS, 2), 1);
        due("it", rowOf(x, 0), "2: 0 0");
        due("in place of nothing", x.sheet(3, SHORTS, 1), 1);
        due("it", rowOf(x, 3), "1: 0");
        due("an empty one", x.sheet(1, BYTES, 0), 1);
        due("it", rowOf(x, 1), "0:");
        due("dolls stay", x.many(0), 4);
        due("they stay where they are", x.many(1), 2);
    }

    private static void sheetRefusals() {
        says("promise 21", "UNKNOWN; OUTSIDE: lane, n above 60");
        for (int k : new int[] {-1, 4, LOW, FAR}) {
            refuses(Sentences::busy, UNKNOWN, "sheet", k, BYTES, 1);
            refuses(Sentences::busy, UNKNOWN, "sheet", k, 3, 61);
            refuses(Sentences::busy, UNKNOWN, "sheet", k, BYTES, -1);
        }
        for (int lane : new int[] {-1, 3, LOW, FAR}) {
            refuses(Sentences::busy, OUTSIDE, "sheet", 0, lane, 1);
            refuses(Sentences::busy, OUTSIDE, "sheet", 3, lane, 1);
            refuses(Sentences::busy, OUTSIDE, "sheet", 0, lane, -1);
        }
        for (int n : new int[] {61, 62, FAR}) {
            refuses(Sentences::busy, OUTSIDE, "sheet", 0, BYTES, n);
            refuses(Sentences::busy, OUTSIDE, "sheet", 3, INTS, n);
        }
    }

    private static void sheetSize() {
        says("promise 21", "SIZE.");
        for (int n : new int[] {-1, -60, LOW}) {
            for (int lane = BYTES; lane <= INTS; lane++) {
                refuses(Sentences::busy, SIZE, "sheet", 0, lane, n);
                refuses(Sentences::busy, SIZE, "sheet", 3, lane, n);
            }
        }
        due("0 is no fault", none().sheet(0, BYTES, 0), 1);
    }

    private static void loseAnswers() {
        says("promise 22", "A SHEET has nothing: 1; 0: it had nothing.");
        for (int k = 0; k < 4; k++) {
            NestedDolls x = none();
            due("nothing in " + k, x.lose(k), 0);
            x.sheet(k, SHORTS, 3);
            due("a row in " + k, x.lose(k), 1);
            due("what is left", rowOf(x, k), "nothing");
            due("again", x.lose(k), 0);
            x.sheet(k, SHORTS, 0);
            due("an empty row in " + k, x.lose(k), 1);
            due("what is left", rowOf(x, k), "nothing");
        }
        NestedDolls x = busy();
        x.lose(0);
        due("the others stay", rowOf(x, 1), "2: 5 28 -1 0");
        due("dolls stay without their text", x.many(0), 4);
    }

    private static void loseUnknown() {
        says("promise 22", "UNKNOWN.");
        for (int k : new int[] {-1, 4, LOW, FAR}) {
            refuses(Sentences::busy, UNKNOWN, "lose", k);
        }
    }

    // ---- promises 23, 24

    private static void putAnswers() {
        says("promise 23", "Cell i of a SHEET becomes v: 1.");
        NestedDolls x = rows();
        due("the first", x.put(0, 0, 9), 1);
        due("the last", x.put(0, 4, 8), 1);
        due("it", rowOf(x, 0), "0: 9 2 3 4 8");
        due("another sheet", rowOf(x, 1), "0: 6 7 8");
        due("once more", x.put(0, 4, -8), 1);
        due("it", rowOf(x, 0), "0: 9 2 3 4 -8");
    }

    private static void putUnknown() {
        says("promise 23", "UNKNOWN");
        for (int k : new int[] {-1, 4, LOW, FAR}) {
            refuses(Sentences::busy, UNKNOWN, "put", k, 0, 1);
            refuses(Sentences::busy, UNKNOWN, "put", k, -1, 1);
        }
    }

    private static void putNull() {
        says("promise 23", "NULL");
        for (int i : new int[] {0, -1, 60, LOW, FAR}) {
            refuses(Sentences::busy, NULL, "put", 3, i, 1);
        }
        NestedDolls x = rows();
        x.lose(0);
        due("a row that was lost", x.put(0, 0, 1), NULL);
    }

    private static void putIndex() {
        says("promise 23", "INDEX.");
        for (int i : new int[] {-1, 4, 59, 60, LOW, FAR}) {
            refuses(Sentences::busy, INDEX, "put", 1, i, 1);
        }
        refuses(Sentences::busy, INDEX, "put", 2, 0, 1);
        NestedDolls x = rows();
        x.sheet(0, BYTES, 2);
        due("beyond a shorter row", x.put(0, 2, 1), INDEX);
    }

    private static void cellAnswers() {
        says("promise 24", "Cell i of what a SHEET has, taken as a row of a LANE.");
        NestedDolls x = rows();
        due("the first", x.cell(0, 0, BYTES), 1);
        due("the last", x.cell(0, 4, BYTES), 5);
        due("of ints", x.cell(2, 2, INTS), 11);
        x.put(2, 0, LOW);
        due("the least int is not LOST", x.cell(2, 0, INTS), LOW);
        due("its fault", x.fault(), 0);
    }

    private static void cellRefusals() {
        says("promise 24", "LOST: UNKNOWN, OUTSIDE: lane");
        for (int k : new int[] {-1, 4, LOW, FAR}) {
            loses(Sentences::busy, 0, "cell", k, 0, BYTES);
            loses(Sentences::busy, 0, "cell", k, -1, 3);
        }
        for (int lane : new int[] {-1, 3, LOW, FAR}) {
            loses(Sentences::busy, 0, "cell", 0, 0, lane);
            loses(Sentences::busy, 0, "cell", 3, 0, lane);
            loses(Sentences::busy, 0, "cell", 0, -1, lane);
        }
    }

    private static void cellFaults() {
        says("promise 24", "FAULTS CAST (nothing is no CAST), NULL, INDEX.");
        loses(Sentences::busy, 2, "cell", 0, 0, SHORTS);
        loses(Sentences::busy, 2, "cell", 0, 0, INTS);
        loses(Sentences::busy, 2, "cell", 0, -1, INTS);
        loses(Sentences::busy, 2, "cell", 1, 0, BYTES);
        loses(Sentences::busy, 2, "cell", 1, 99, SHORTS);
        loses(Sentences::busy, 2, "cell", 2, 0, BYTES);
        loses(Sentences::busy, 2, "cell", 2, 0, INTS);
        for (int lane = BYTES; lane <= INTS; lane++) {
            loses(Sentences::busy, 1, "cell", 3, 0, lane);
            loses(Sentences::busy, 1, "cell", 3, -1, lane);
        }
        for (int i : new int[] {-1, 4, 60, LOW, FAR}) {
            loses(Sentences::busy, 3, "cell", 1, i, INTS);
        }
        loses(Sentences::busy, 3, "cell", 2, 0, SHORTS);
    }

    // ---- promise 25

    private static void copyAnswers() {
        says("promise 25", "n cells of a SHEET from i on go to another one (perhaps the same) from j on");
        NestedDolls x = rows();
        due("all of the other", x.copy(0, 2, 1, 0, 3), 3);
        due("the other", rowOf(x, 1), "0: 3 4 5");
        due("the first stays", rowOf(x, 0), "0: 1 2 3 4 5");
        due("all of the first", x.copy(0, 0, 0, 0, 5), 5);
        due("the first", rowOf(x, 0), "0: 1 2 3 4 5");
        due("one", x.copy(0, 0, 1, 2, 1), 1);
        due("the other", rowOf(x, 1), "0: 3 4 1");
        due("none", x.copy(0, 0, 1, 0, 0), 0);
        due("none from the ends", x.copy(0, 5, 1, 3, 0), 0);
        due("the other", rowOf(x, 1), "0: 3 4 1");
        x.put(0, 0, 99);
        due("what is put later stays apart", rowOf(x, 1), "0: 3 4 1");
        x.sheet(3, SHORTS, 0);
        due("none of an empty row", x.copy(3, 0, 3, 0, 0), 0);
        NestedDolls sixty = none();
        sixty.sheet(0, INTS, 60);
        sixty.sheet(1, INTS, 60);
        sixty.put(0, 59, LOW);
        due("sixty", sixty.copy(0, 0, 1, 0, 60), 60);
        due("the last of sixty", sixty.cell(1, 59, INTS), LOW);
    }

    private static void copyAsTheyWere() {
        says("promise 25", "as they were: n");
        NestedDolls x = rows();
        due("onwards", x.copy(0, 0, 0, 1, 4), 4);
        due("it", rowOf(x, 0), "0: 1 1 2 3 4");
        x = rows();
        due("backwards", x.copy(0, 1, 0, 0, 4), 4);
        due("it", rowOf(x, 0), "0: 2 3 4 5 5");
    }

    private static void copyUnknown() {
        says("promise 25", "UNKNOWN");
        for (int k : new int[] {-1, 4, LOW, FAR}) {
            refuses(BoundsOfSheets::rows, UNKNOWN, "copy", k, 0, 0, 0, 1);
            refuses(BoundsOfSheets::rows, UNKNOWN, "copy", 0, 0, k, 0, 1);
            refuses(BoundsOfSheets::rows, UNKNOWN, "copy", 3, -1, k, -1, -1);
            refuses(BoundsOfSheets::rows, UNKNOWN, "copy", k, -1, 3, -1, -1);
        }
    }

    private static void copyNull() {
        says("promise 25", "FAULTS NULL (the first, the other)");
        refuses(BoundsOfSheets::rows, NULL, "copy", 3, 0, 0, 0, 0);
        refuses(BoundsOfSheets::rows, NULL, "copy", 0, 0, 3, 0, 0);
        refuses(BoundsOfSheets::rows, NULL, "copy", 3, 0, 3, 0, 0);
        refuses(BoundsOfSheets::rows, NULL, "copy", 3, -1, 2, 9, -1);
        refuses(BoundsOfSheets::rows, NULL, "copy", 2, 9, 3, -1, -1);
    }

    private static void copyCast() {
        says("promise 25", "CAST (unlike LANES)");
        refuses(BoundsOfSheets::rows, CAST, "copy", 0, 0, 2, 0, 1);
        refuses(BoundsOfSheets::rows, CAST, "copy", 2, 0, 0, 0, 1);
        refuses(BoundsOfSheets::rows, CAST, "copy", 0, 0, 2, 0, 0);
        refuses(BoundsOfSheets::rows, CAST, "copy", 0, -1, 2, 9, -1);
        refuses(Sentences::busy, CAST, "copy", 0, 0, 2, 0, 0);
        refuses(Sentences::busy, CAST, "copy", 2, 0, 1, 0, 0);
    }

    private static void copyIndex() {
        says("promise 25", "INDEX: i, j, n below 0 or beyond.");
        int[][] numbers = {{-1, 0, 1}, {0, -1, 1}, {0, 0, -1}, {-1, 0, 0}, {0, -1, 0}, {6, 0, 0}, {0, 4, 0}, {5, 0, 1},
            {0, 3, 1}, {3, 0, 3}, {0, 1, 3}, {0, 0, 4}, {0, 0, 6}, {LOW, 0, 1}, {0, LOW, 1}, {0, 0, LOW}, {FAR, 0, 1},
            {0, FAR, 1}, {0, 0, FAR}, {FAR, FAR, FAR}, {1, 1, FAR}, {LOW, LOW, LOW}};
        for (int[] p : numbers) {
            refuses(BoundsOfSheets::rows, INDEX, "copy", 0, p[0], 1, p[1], p[2]);
        }
        refuses(BoundsOfSheets::rows, INDEX, "copy", 1, 0, 0, 0, 4);
        refuses(BoundsOfSheets::rows, INDEX, "copy", 0, 0, 0, 1, 5);
        refuses(BoundsOfSheets::rows, INDEX, "copy", 0, 1, 0, 0, 5);
    }

    // ---- promises 26 to 28

    private static void tellUnknown() {
        says("promise 26", "UNKNOWN.");
        for (int d : new int[] {-1, 4, LOW, FAR}) {
            refuses(Sentences::busy, UNKNOWN, "tell", d);
        }
        refuses(Sentences::none, UNKNOWN, "tell", 0);
        refuses(() -> of("n;p10;p10"), UNKNOWN, "tell", 2);
    }

    private static void shakeUnknown() {
        says("promise 27", "UNKNOWN.");
        for (int d : new int[] {-1, 4, LOW, FAR}) {
            refuses(Sentences::busy, UNKNOWN, "shake", d);
        }
        refuses(Sentences::none, UNKNOWN, "shake", 0);
        refuses(() -> of("n;p10;p10"), UNKNOWN, "shake", 2);
    }

    private static void asAnswers() {
        says("promise 28", "A DOLL, taken as one of a kind: 1.");
        NestedDolls x = of("n;p10;b10;s10");
        for (int d = 0; d < 3; d++) {
            for (int kind = 0; kind <= d; kind++) {
                due(d + " as " + kind, x.as(d, kind), 1);
                due("its fault", x.fault(), 0);
                due("its kind stays", x.ofDoll(d, 0), d);
            }
        }
    }

    private static void asRefusals() {
        says("promise 28", "UNKNOWN; OUTSIDE");
        for (int d : new int[] {-1, 4, LOW, FAR}) {
            refuses(Sentences::busy, UNKNOWN, "as", d, 0);
            refuses(Sentences::busy, UNKNOWN, "as", d, 3);
        }
        refuses(Sentences::none, UNKNOWN, "as", 0, 0);
        for (int kind : new int[] {-1, 3, LOW, FAR}) {
            refuses(Sentences::busy, OUTSIDE, "as", 0, kind);
            refuses(() -> of("n;s10"), OUTSIDE, "as", 0, kind);
        }
    }

    private static void asCast() {
        says("promise 28", "CAST: it is none (each is a PLAIN one, too; a SWOLLEN one is a BRUSHED one).");
        refuses(() -> of("n;p10"), CAST, "as", 0, 1);
        refuses(() -> of("n;p10"), CAST, "as", 0, 2);
        refuses(() -> of("n;b10"), CAST, "as", 0, 2);
        due("each is a plain one", of("n;s10").as(0, 0), 1);
        due("a brushed one, too", of("n;b10").as(0, 0), 1);
        due("a swollen one is a brushed one", of("n;s10").as(0, 1), 1);
    }

    // ---- promises 29 to 31

    private static void traceAnswers() {
        says("promise 29", "TRACE.");
        NestedDolls x = of("n;p10");
        due("0 at first", none().trace(), 0);
        due("told", x.tell(0), 1);
        due("once", x.trace(), 1);
        due("asked again", x.trace(), 1);
        due("refused", x.tell(1), UNKNOWN);
        due("behind a refusal", x.trace(), 1);
    }

    /** A call that comes to no FAULT, a call that is refused, of each that names FAULTS. */
    private static final String[] NAMING = {"dolls", "day", "fewest", "sheet", "put", "cell", "copy", "as"};
    private static final int[][] COMING = {{0, 0, 0, 17}, {1, 2, 4, 0, 0}, {3, 0, 0, -1}, {0, 0, 4}, {0, 0, 1}, {0, 0, 0},
        {0, 0, 0, 1, 1}, {0, 0}};
    private static final int[][] REFUSED = {{4, 0, 0, 17}, {1, 2, 1, 1, 0}, {3, 0, 0, 60}, {0, 3, 4}, {4, 0, 1}, {0, 0, 3},
        {0, 0, 4, 1, 1}, {0, 3}};
    private static final int[][] AT_FAULT = {{0, 1, 0, 17}, {1, 1, 0, 1, 0}, {3, 1, 0, -1}, {0, 0, -1}, {1, 4, 1},
        {1, 4, 2}, {0, 0, 0, 17, 1}, {0, 2}};
    private static final int[] FAULTS = {2, 2, 2, 4, 3, 3, 3, 2};

    private static NestedDolls withNest() {
        NestedDolls x = busy();
        x.sheet(3, BYTES, 4);
        return x;
    }

    private static void faultOfLatestCall() {
        says("promise 30", "The FAULT of the latest call that names one");
        for (int ahead = 0; ahead < NAMING.length; ahead++) {
            for (int k = 0; k < NAMING.length; k++) {
                NestedDolls x = withNest();
                call(x, NAMING[ahead], AT_FAULT[ahead]);
                due(NAMING[ahead], x.fault(), FAULTS[ahead]);
                call(x, NAMING[k], AT_FAULT[k]);
                due(NAMING[k] + " behind " + NAMING[ahead], x.fault(), FAULTS[k]);
                due("asked again", x.fault(), FAULTS[k]);
            }
        }
    }

    private static void faultOfNone() {
        says("promise 30", "0: it came to none, or was refused");
        for (int k = 0; k < NAMING.length; k++) {
            NestedDolls x = withNest();
            x.sheet(0, BYTES, -1);
            due(NAMING[k] + " answered at least 0", call(x, NAMING[k], COMING[k]) >= 0, true);
            due(NAMING[k] + " came to none", x.fault(), 0);
            x.sheet(0, BYTES, -1);
            due(NAMING[k] + " answered less than 0", call(x, NAMING[k], REFUSED[k]) < 0, true);
            due(NAMING[k] + " was refused", x.fault(), 0);
        }
        NestedDolls x = withNest();
        x.sheet(0, BYTES, -1);
        due("a text that goes wrong", x.dolls(0, BYTES, 1, 3), -100);
        due("comes to none", x.fault(), 0);
        x.sheet(0, BYTES, -1);
        x.anew();
        due("a nest that can't be", fewest(x, -1, 1, 1, 1, 1), NONE);
        due("comes to none", x.fault(), 0);
        x.sheet(0, BYTES, -1);
        due("a day with a first wrong", x.day(1, INTS, 0, 4, 0), -101);
        due("comes to none", x.fault(), 0);
        NestedDolls y = none();
        y.sheet(1, INTS, 1);
        y.sheet(0, BYTES, -1);
        due("a day without dolls", y.day(1, INTS, 0, 1, 0), STATE);
        due("is refused", y.fault(), 0);
        y.sheet(0, BYTES, -1);
        due("a nest without dolls", y.fewest(1, INTS, 0, 0), STATE);
        due("is refused", y.fault(), 0);
    }

    private static void faultAheadOfAny() {
        says("promise 30", "(0 ahead of any)");
        due("a new object", none().fault(), 0);
        NestedDolls x = none();
        x.act(0);
        x.lose(0);
        x.tell(0);
        due("calls that name none", x.fault(), 0);
    }

    private static void faultOfCallsThatNameNone() {
        says("terms", "they change nothing (but fault(), of a call that names FAULTS)");
        String[] names = {"ofDoll", "girth", "room", "fits", "act", "anew", "can", "stands", "tidy", "chain", "reading",
            "back", "girths", "rooms", "kinds", "odds", "lose", "tell", "shake", "trace", "fault", "many"};
        int[][] taken = {{0, 0}, {0, 3}, {0, 0}, {0, 1}, {3}, {}, {}, {0}, {0}, {}, {0, 1, 1}, {1}, {0}, {0}, {0}, {0}, {0},
            {0}, {0}, {}, {}, {0}};
        int[][] refused = {{4, 0}, {0, 10}, {0, 10}, {0, 0}, {28}, {}, {}, {4}, {4}, {}, {0, 1, 2}, {9}, {4}, {4}, {4}, {2},
            {4}, {4}, {4}, {}, {}, {5}};
        for (int k = 0; k < names.length; k++) {
            NestedDolls x = busy();
            x.put(3, 0, 0);
            call(x, names[k], taken[k]);
            due(names[k], x.fault(), 1);
            call(x, names[k], refused[k]);
            due(names[k] + ", refused", x.fault(), 1);
            NestedDolls y = none();
            y.put(3, 0, 0);
            call(y, names[k], taken[k]);
            due(names[k] + " without dolls", y.fault(), 1);
        }
    }

    private static void manyAnswers() {
        says("promise 31", "How many: 0 DOLLS, 1 on the TABLE, 2 OPEN ones, 3 ACTS that were done (by act()), 4 READINGS");
        int[] due = {4, 2, 1, 5, 2};
        for (int what = 0; what <= 4; what++) {
            due("what " + what, busy().many(what), due[what]);
        }
        NestedDolls x = of("n;p10;p32;p54;p76", 0, 1, 2, 3);
        due("all on the table", x.many(1), 4);
        due("all open", x.many(2), 4);
        NestedDolls y = of("n;p10;p32;p54;p76", 1, 13, 5, 2, 18, 6, 3, 23, 7);
        due("one on the table", y.many(1), 1);
        due("none open", y.many(2), 0);
    }

    private static void manyActs() {
        says("promise 31", "3 ACTS that were done (by act())");
        NestedDolls x = of("n;p10;p32");
        due("none", x.many(3), 0);
        act(x, 1, 1, 28, 13, 3);
        due("refused ones are not done", x.many(3), 2);
        day(x, 0, 8);
        fewest(x, -1, 0, 0);
        x.stands(0);
        due("told ones are not done", x.many(3), 2);
        x.anew();
        due("made anew by no act", x.many(3), 2);
        take(x, "n;p11");
        due("behind a text that is wrong", x.many(3), 2);
        take(x, "n;p10");
        due("behind another text", x.many(3), 0);
    }

    private static void manyWithoutDolls() {
        says("promise 31", "(0 all without DOLLS)");
        NestedDolls x = none();
        x.act(0);
        x.reading(0, 1, 1);
        take(x, "n");
        for (int what = 0; what <= 4; what++) {
            due("what " + what, x.many(what), 0);
        }
    }

    private static void manyOutside() {
        says("promise 31", "OUTSIDE.");
        for (int what : new int[] {-1, 5, LOW, FAR}) {
            refuses(Sentences::busy, OUTSIDE, "many", what);
            refuses(Sentences::none, OUTSIDE, "many", what);
        }
    }
}
