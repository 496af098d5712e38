/** Each sentence of part 3 and of promises 11 to 14 that names a boundary case, by a test of its own. */
public final class BoundsOfNests extends Sentences {
    /** Each FITS into all that follow. */
    private static final String ROW = "n;p10;p32;p54;p76";
    /** 0 in 1 in 2 in 3, all SHUT. */
    private static final int[] ALL_IN_ONE = {1, 13, 5, 2, 18, 6, 3, 23, 7};

    public static void main(String[] args) {
        nestsTold();
        fewestAndShut();
        firstOfSeveralRows();
        byNone();
        standsHowItIsNow();
        tidyAsFewAsCanBe();
        tidyFirstOfSeveral();
        chains();
        fewestPlaces();
        fewestOfAsManyCells();
        fewestState();
        fewestUnknown();
        fewestOutside();
        fewestFaults();
        fewestCells();
        fewestChangesNothing();
        standsAnswers();
        standsOutside();
        standsState();
        tidyAnswers();
        tidyWithoutSuchDoll();
        tidyRefusals();
        chainState();
        end();
    }

    private static NestedDolls row(int... acts) {
        return of(ROW, acts);
    }

    private static String first(int many) {
        return ROW.substring(0, 1 + 4 * many);
    }

    // ---- part 3

    private static void nestsTold() {
        says("part 3", "A NEST told: a row of numbers, one for each DOLL: 0: it is on the TABLE; 1 and e: it is in DOLL e.");
        due("one doll", rowTo(of("n;p10", 0), 0), "4");
        due("the first in the last", rowTo(row(), 4, 0, 0, 0), "3 15 7");
        due("the last in the first", rowTo(of("n;p76;p54;p32;p10"), 0, 0, 0, 1), "0 24 4");
        due("all in one", rowTo(row(), 2, 3, 4, 0).length() > 0, true);
        due("acts to all in one", fewest(row(), -1, 2, 3, 4, 0), 9);
    }

    private static void fewestAndShut() {
        says("part 3", "FEWEST to a NEST told: the fewest ACTS, from how all is now, by which it is so, and all are SHUT");
        due("so already, all shut", rowTo(row(), 0, 0, 0, 0), "");
        due("one is open", rowTo(row(2), 0, 0, 0, 0), "6");
        due("all are open", rowTo(row(0, 1, 2, 3), 0, 0, 0, 0), "4 5 6 7");
        due("in a nest, one open in one that is open", rowTo(row(1, 13, 0), 2, 0, 0, 0), "4 5");
        due("from a nest to none", rowTo(row(ALL_IN_ONE), 0, 0, 0, 0), "3 2 1 8 5 9 6 10 7");
        due("from a nest to itself", rowTo(row(ALL_IN_ONE), 2, 3, 4, 0), "");
        due("an open one must be shut to be put", rowTo(row(0, 1), 2, 0, 0, 0), "4 13 5");
    }

    private static void firstOfSeveralRows() {
        says("part 3", "of several rows of ACTS the first");
        due("twice one in one", rowTo(row(), 2, 0, 4, 0), "1 3 13 5 23 7");
        due("three in one another", rowTo(row(), 2, 3, 0, 0), "1 2 13 5 18 6");
        due("shut ahead of taken", rowTo(row(1, 13, 3), 0, 0, 0, 0), "7 8 5");
        due("lesser numbers go first", rowTo(row(3, 2, 1), 0, 0, 0, 0), "5 6 7");
    }

    private static void byNone() {
        says("part 3", "NONE: by none.");
        int[][] nests = {{1, 0, 0, 0}, {0, 2, 0, 0}, {0, 0, 0, 4}, {0, 1, 0, 0}, {2, 1, 0, 0}, {4, 4, 0, 0},
            {4, 4, 4, 0}, {4, 0, 0, 1}, {2, 3, 4, 1}};
        for (int[] nest : nests) {
            due("how many to " + nest[0] + nest[1] + nest[2] + nest[3], fewest(row(), -1, nest), NONE);
            due("an act to " + nest[0] + nest[1] + nest[2] + nest[3], fewest(row(), 0, nest), NONE);
        }
        due("one doll in itself", fewest(of("n;p98"), -1, 1), NONE);
        NestedDolls x = row(1, 13);
        x.room(1, 0);
        due("out of one that it fits no more", rowTo(x, 0, 0, 0, 0), "8 5");
        x.act(8);
        due("into it again", fewest(x, -1, 2, 0, 0, 0), NONE);
    }

    private static void standsHowItIsNow() {
        says("part 3", "STANDS: all that DOLLS can become by ACTS from how all is now (where each is, which are OPEN; how "
            + "it is now, too).");
        NestedDolls x = of("n;p10;p21", 1, 13);
        due("both ways", x.stands(0), 7);
        x.room(1, 0);
        due("out of one that it fits no more", x.stands(0), 7);
        due("with one on the table", x.stands(2), 3);
        x.act(8);
        due("never into it again", x.stands(0), 4);
        due("with one on the table no more", x.stands(2), 0);
        x.room(1, 1);
        due("into it again", x.stands(0), 7);
        x.anew();
        due("anew", x.stands(0), 7);
        x.girth(0, 2);
        due("too wide", x.stands(0), 4);
        take(x, "n;p10");
        due("of another text", x.stands(0), 2);
    }

    private static void tidyOf(String text, int... due) {
        NestedDolls x = of(text);
        for (int k = -1; k < due.length - 1; k++) {
            due(text + " k " + k, x.tidy(k), due[k + 1]);
        }
    }

    private static void tidyAsFewAsCanBe() {
        says("part 3", "TIDY: each DOLL on the TABLE, or in one that it FITS, in each one at most, as few on the TABLE as "
            + "can be");
        tidyOf("n;p10", 1, 0);
        tidyOf("n;p98", 1, 0);
        tidyOf("n;p98;p98", 2, 0, 0);
        tidyOf("n;p98;p80", 1, 0, 1);
        tidyOf("n;p98;b80", 2, 0, 0);
        tidyOf("n;b70;p98", 1, 2, 0);
        tidyOf("n;s40;p98", 1, 2, 0);
        tidyOf("n;s50;p98", 2, 0, 0);
        tidyOf(ROW, 1, 2, 3, 4, 0);
        tidyOf("n;p76;p54;p32;p10", 1, 0, 1, 2, 3);
        tidyOf("n;p98;p98;p98;p98", 4, 0, 0, 0, 0);
        tidyOf("n;p10;p10;p10;p98", 3, 0, 0, 4, 0);
        // the least one must be left to the only one that it fits
        tidyOf("n;p10;p31;p54;p20", 2, 2, 0, 0, 3);
    }

    private static void tidyFirstOfSeveral() {
        says("part 3", "of several NESTS the first, as rows");
        tidyOf("n;p10;p10;p32", 2, 0, 3, 0);
        tidyOf("n;p10;p10;p32;p32", 2, 3, 4, 0, 0);
        tidyOf("n;p32;p32;p10;p10", 2, 0, 0, 1, 2);
        tidyOf("n;p10;p32;p32", 2, 2, 0, 0);
        tidyOf("n;p54;p10;p32;p32", 2, 0, 3, 0, 1);
    }

    private static void chains() {
        says("part 3", "CHAIN: the most DOLLS of which each FITS into the next.");
        due("one", of("n;p98").chain(), 1);
        due("two of the same", of("n;p98;p98").chain(), 1);
        due("two", of("n;p98;p80").chain(), 2);
        due("two, one too wide", of("n;p98;b80").chain(), 1);
        for (int many = 1; many <= 4; many++) {
            due(many + " in a row", of(first(many)).chain(), many);
        }
        due("four, the other way round", of("n;p76;p54;p32;p10").chain(), 4);
        due("four, mixed", of("n;p54;p10;p76;p32").chain(), 4);
        due("all into one", of("n;p10;p10;p10;p98").chain(), 2);
        due("three of four", of("n;p10;p32;p32;p54").chain(), 3);
        due("however all is now", row(3, 15, 7).chain(), 4);
    }

    // ---- promise 11

    private static void fewestPlaces() {
        says("promise 11", "how many (k -1), the ACT in place k (0 .. 59) of the row; NONE: there are not so many, by none.");
        int[] due = {1, 13, 5};
        NestedDolls x = row();
        due("how many", fewest(x, -1, 2, 0, 0, 0), 3);
        for (int k = 0; k <= 59; k++) {
            due("place " + k, x.fewest(1, INTS, 0, k), k < 3 ? due[k] : NONE);
        }
        due("none of no acts", fewest(x, 0, 0, 0, 0, 0), NONE);
        due("none of no acts, the last place", x.fewest(1, INTS, 0, 59), NONE);
        due("no acts", x.fewest(1, INTS, 0, -1), 0);
    }

    private static void fewestOfAsManyCells() {
        says("promise 11", "by as many cells of a SHEET from i on as there are DOLLS");
        for (int many = 1; many <= 4; many++) {
            for (int lane = BYTES; lane <= INTS; lane++) {
                NestedDolls x = of(first(many), 0);
                x.sheet(1, lane, 60);
                x.put(1, many, 99);
                due(many + " dolls, the first cells", x.fewest(1, lane, 0, -1), 1);
                due(many + " dolls, the last cells", x.fewest(1, lane, 60 - many, -1), 1);
                due(many + " dolls, one cell beyond", x.fewest(1, lane, 61 - many, -1), INDEX);
                due(many + " dolls, a cell that is not so", x.fewest(1, lane, 1, -1), OUTSIDE);
                due(many + " dolls, behind a cell that is not so", x.fewest(1, lane, many + 1, -1), 1);
                x.put(1, many, 1);
                due(many + " dolls, behind a cell that is so", x.fewest(1, lane, many + 1, -1), 1);
            }
        }
    }

    private static NestedDolls sheetsAlone() {
        NestedDolls x = none();
        write(x, 1, INTS, 0, 0, 0, 0);
        return x;
    }

    private static void fewestState() {
        says("promise 11", "STATE: there are no DOLLS");
        refuses(BoundsOfNests::sheetsAlone, STATE, "fewest", 1, INTS, 0, -1);
        refuses(BoundsOfNests::sheetsAlone, STATE, "fewest", 4, INTS, 0, -1);
        refuses(BoundsOfNests::sheetsAlone, STATE, "fewest", 1, 3, 0, -1);
        refuses(BoundsOfNests::sheetsAlone, STATE, "fewest", 1, INTS, 0, 60);
        refuses(BoundsOfNests::sheetsAlone, STATE, "fewest", 1, BYTES, 0, -1);
        refuses(BoundsOfNests::sheetsAlone, STATE, "fewest", 3, INTS, 0, -1);
        refuses(BoundsOfNests::sheetsAlone, STATE, "fewest", 1, INTS, 5, -1);
    }

    private static void fewestUnknown() {
        says("promise 11", "UNKNOWN: SHEET");
        for (int k : new int[] {-1, 4, LOW, FAR}) {
            refuses(Sentences::busy, UNKNOWN, "fewest", k, INTS, 0, -1);
            refuses(Sentences::busy, UNKNOWN, "fewest", k, 3, -1, -2);
        }
    }

    private static void fewestOutside() {
        says("promise 11", "OUTSIDE: lane, k");
        for (int lane : new int[] {-1, 3, LOW, FAR}) {
            refuses(Sentences::busy, OUTSIDE, "fewest", 1, lane, 0, -1);
            refuses(Sentences::busy, OUTSIDE, "fewest", 3, lane, -1, -1);
        }
        for (int k : new int[] {-2, 60, LOW, FAR}) {
            refuses(Sentences::busy, OUTSIDE, "fewest", 1, INTS, 0, k);
            refuses(Sentences::busy, OUTSIDE, "fewest", 1, BYTES, 0, k);
            refuses(Sentences::busy, OUTSIDE, "fewest", 3, BYTES, -1, k);
            refuses(Sentences::busy, OUTSIDE, "fewest", 2, SHORTS, 9, k);
        }
    }

    private static void fewestFaults() {
        says("promise 11", "FAULTS CAST, NULL, INDEX");
        refuses(Sentences::busy, CAST, "fewest", 1, BYTES, 0, -1);
        refuses(Sentences::busy, CAST, "fewest", 1, SHORTS, -1, 59);
        refuses(Sentences::busy, CAST, "fewest", 2, INTS, 0, 0);
        for (int lane = BYTES; lane <= INTS; lane++) {
            refuses(Sentences::busy, NULL, "fewest", 3, lane, 0, -1);
            refuses(Sentences::busy, NULL, "fewest", 3, lane, -1, 59);
        }
        for (int i : new int[] {-1, 1, 4, 5, LOW, FAR, FAR - 3}) {
            refuses(Sentences::busy, INDEX, "fewest", 1, INTS, i, -1);
        }
        refuses(Sentences::busy, INDEX, "fewest", 2, SHORTS, 0, -1);
    }

    private static void fewestCells() {
        says("promise 11", "OUTSIDE: a cell is not 0 .. how many DOLLS there are.");
        for (int many = 1; many <= 4; many++) {
            for (int d = 0; d < many; d++) {
                for (int cell : new int[] {-1, many + 1, LOW, FAR}) {
                    int[] nest = new int[many];
                    nest[d] = cell;
                    due(many + " dolls, cell " + d + " is " + cell, fewest(of(first(many)), -1, nest), OUTSIDE);
                    due(many + " dolls, place 59", fewest(of(first(many)), 59, nest), OUTSIDE);
                }
            }
            int[] last = new int[many];
            last[0] = many;
            due(many + " dolls, as many as there are", fewest(of(first(many)), -1, last), many == 1 ? NONE : 3);
        }
        refuses(Sentences::busy, OUTSIDE, "fewest", 1, INTS, 0, -1);
    }

    private static void fewestChangesNothing() {
        says("part 3", "from how all is now");
        NestedDolls x = row(1, 13);
        write(x, 1, INTS, 4, 0, 0, 0);
        String ahead = seen(x);
        due("how many", x.fewest(1, INTS, 0, -1), 5);
        due("the first", x.fewest(1, INTS, 0, 0), 3);
        due("what is seen behind", seen(x), ahead);
        x.act(3);
        due("one less", x.fewest(1, INTS, 0, -1), 4);
        due("the next", x.fewest(1, INTS, 0, 0), 8);
        // behind each act that can be, so that nothing of an earlier search is left
        for (int act = 0; act < 4; act++) {
            NestedDolls y = row();
            due("from all shut", rowTo(y, 0, 0, 0, 0), "");
            y.act(act);
            due("behind " + act, rowTo(y, 0, 0, 0, 0), "" + (act + 4));
            y.act(act + 4);
            due("and shut again", rowTo(y, 0, 0, 0, 0), "");
        }
    }

    // ---- promises 12 to 14

    private static void standsOf(String text, int... due) {
        NestedDolls x = of(text);
        for (int what = 0; what < 4; what++) {
            due(text + " what " + what, x.stands(what), due[what]);
        }
    }

    private static void standsAnswers() {
        says("promise 12", "STANDS: how many (what 0), with all SHUT (1), with one DOLL on the TABLE (2), with all AT HAND "
            + "(3).");
        standsOf("n;p10", 2, 1, 2, 2);
        standsOf("n;p10;p10", 4, 1, 0, 4);
        standsOf("n;p10;p32", 7, 2, 3, 6);
        // a chain of m can be open in m + 1 ways, two of them with all at hand (but one doll: both); over all partings
        standsOf("n;p10;p32;p54", 30, 5, 4, 22);
        standsOf(ROW, 152, 15, 5, 94);
        standsOf("n;p98;p98;p98;p98", 16, 1, 0, 16);
        due("from all in one on", row(ALL_IN_ONE).stands(0), 152);
        String[] dolls = {"p10", "p32", "p54", "p76"};
        for (int order = 0; order < 256; order++) {
            int[] at = {order & 3, order >> 2 & 3, order >> 4 & 3, order >> 6};
            if (bits(at) == 15) {
                standsOf("n;" + dolls[at[0]] + ";" + dolls[at[1]] + ";" + dolls[at[2]] + ";" + dolls[at[3]],
                    152, 15, 5, 94);
            }
        }
    }

    private static void standsOutside() {
        says("promise 12", "OUTSIDE");
        for (int what : new int[] {-1, 4, LOW, FAR}) {
            refuses(Sentences::busy, OUTSIDE, "stands", what);
            refuses(Sentences::none, OUTSIDE, "stands", what);
        }
    }

    private static void standsState() {
        says("promise 12", "STATE: there are no DOLLS.");
        for (int what = 0; what < 4; what++) {
            refuses(Sentences::none, STATE, "stands", what);
        }
    }

    private static void tidyAnswers() {
        says("promise 13", "TIDY: how many are on the TABLE (k -1), where DOLL k (0 .. 3) is in the first such NEST (0 on the "
            + "TABLE, 1 and e in DOLL e");
        tidyOf(ROW, 1, 2, 3, 4, 0);
        tidyOf("n;p10;p98;p10;p98", 2, 2, 0, 4, 0);
        NestedDolls x = row(3, 15, 7);
        due("however all is now", x.tidy(0), 2);
        due("nothing is changed", x.ofDoll(0, 4), 4);
        x.room(1, 0);
        due("by what fits now", x.tidy(0), 0);
        due("by what fits now, the next", x.tidy(1), 3);
        due("by what fits now, on the table", x.tidy(-1), 2);
    }

    private static void tidyWithoutSuchDoll() {
        says("promise 13", "NONE: there is no such DOLL");
        for (int many = 1; many <= 4; many++) {
            NestedDolls x = of(first(many));
            due(many + " dolls, on the table", x.tidy(-1), 1);
            for (int k = 0; k < 4; k++) {
                due(many + " dolls, doll " + k, x.tidy(k), k < many - 1 ? k + 2 : k == many - 1 ? 0 : NONE);
            }
        }
    }

    private static void tidyRefusals() {
        says("promise 13", "OUTSIDE; STATE: there are no DOLLS.");
        for (int k : new int[] {-2, 4, LOW, FAR}) {
            refuses(Sentences::busy, OUTSIDE, "tidy", k);
            refuses(() -> of("n;p10"), OUTSIDE, "tidy", k);
            refuses(Sentences::none, OUTSIDE, "tidy", k);
        }
        for (int k = -1; k < 4; k++) {
            refuses(Sentences::none, STATE, "tidy", k);
        }
    }

    private static void chainState() {
        says("promise 14", "STATE: there are no DOLLS.");
        refuses(Sentences::none, STATE, "chain");
    }
}
