import java.util.function.Supplier;

/** Each sentence of part 2 and of promises 7 to 10 that names a boundary case, by a test of its own. */
public final class BoundsOfActs extends Sentences {
    /** Each FITS into all that follow. */
    private static final String ROW = "n;p10;p32;p54;p76";
    /** 0 in 1 in 2 in 3, all SHUT. */
    private static final int[] ALL_IN_ONE = {1, 13, 5, 2, 18, 6, 3, 23, 7};
    private static final int[] WHATS = {0, 1, 2, 3, 4, 10, 11, 12, 13};

    public static void main(String[] args) {
        oneAtMost();
        atHand();
        opened();
        shut();
        taken();
        put();
        everyPut();
        dayFromNow();
        firstWrong();
        noSuchDoll();
        actAnswers();
        actOutside();
        actState();
        anewAnswers();
        anewState();
        canAnswers();
        canIsWhatActDoes();
        canState();
        daysOfAllLengths();
        dayWhats();
        dayWithoutSuchDoll();
        dayWithFirstWrong();
        dayUnknown();
        dayOutside();
        dayFaults();
        dayState();
        dayCells();
        end();
    }

    private static NestedDolls row(int... acts) {
        return of(ROW, acts);
    }

    private static Supplier<NestedDolls> made(int... acts) {
        return () -> row(acts);
    }

    // ---- part 2

    private static void oneAtMost() {
        says("part 2", "A DOLL is on the TABLE, or in another one; in each is one at most.");
        NestedDolls x = row(3, 12 + 3);
        due("a second one", x.act(12 + 4 + 3), STATE);
        due("the one that is in it", x.ofDoll(3, 7), 0);
        due("when it is taken", x.act(8), 4);
        due("another one", x.act(12 + 4 + 3), 3);
        due("the one that is in it then", x.ofDoll(3, 7), 1);
        due("the one that is on the table then", x.ofDoll(0, 4), 0);
        for (int e = 0; e < 4; e++) {
            NestedDolls y = allFitInto(e);
            act(y, e, 12 + 4 * ((e + 1) % 4) + e);
            due("what is in " + e, y.ofDoll(e, 7), (e + 1) % 4);
            due("a second one into " + e, y.act(12 + 4 * ((e + 2) % 4) + e), STATE);
            due("a third one into " + e, y.act(12 + 4 * ((e + 3) % 4) + e), STATE);
        }
    }

    private static NestedDolls allFitInto(int e) {
        NestedDolls x = of("n;p10;p10;p10;p10");
        x.girth(e, 9);
        x.room(e, 8);
        return x;
    }

    private static void atHand() {
        says("part 2", "It is AT HAND, if all are OPEN that it is in (also those in which these are).");
        NestedDolls x = row(ALL_IN_ONE);
        int[] hand = {bits(3), bits(2, 3), bits(1, 2, 3), bits(0, 1, 2, 3), bits(0, 1, 2, 3)};
        for (int open = 0; open <= 4; open++) {
            if (open > 0) {
                due("opened " + (4 - open), x.act(4 - open), 1);
            }
            for (int d = 0; d < 4; d++) {
                due("doll " + d + " with " + open + " open", x.ofDoll(d, 6), hand[open] >> d & 1);
            }
        }
        due("on the table, within none", of("n;p10").ofDoll(0, 6), 1);
    }

    private static void opened() {
        says("part 2", "0 .. 3: DOLL 0 .. 3 is OPENED (it is AT HAND, SHUT)");
        for (int d = 0; d < 4; d++) {
            NestedDolls x = row();
            due("doll " + d, x.act(d), 4);
            due("open ones", x.day(0, BYTES, 0, 0, 2), bits(d));
            refuses(made(d), STATE, "act", d);
        }
        for (int d = 0; d < 3; d++) {
            refuses(made(ALL_IN_ONE), STATE, "act", d);
        }
        refuses(made(1, 13, 5, 2, 18, 6, 3, 23), STATE, "act", 1);
    }

    private static void shut() {
        says("part 2", "4 .. 7: DOLL that is 4 less is SHUT (it is AT HAND, OPEN; what is in it is SHUT)");
        for (int d = 0; d < 4; d++) {
            NestedDolls x = row(0, 1, 2, 3);
            due("doll " + d, x.act(4 + d), 4);
            due("open ones", x.day(0, BYTES, 0, 0, 2), 15 - bits(d));
            refuses(made(), STATE, "act", 4 + d);
            refuses(made(ALL_IN_ONE), STATE, "act", 4 + d);
        }
        due("a shut one is in it", act(row(), 1, 13, 5), 3);
        refuses(made(1, 13, 0), STATE, "act", 5);
        due("an open one is on the table", act(row(), 0, 1, 5), 4);
        refuses(made(1, 13, 5, 2, 18, 1), STATE, "act", 6);
        refuses(made(1, 13, 5, 2, 18, 1, 0), STATE, "act", 5);
        due("one behind another", act(row(), 1, 13, 5, 2, 18, 1, 0, 4, 5, 6), 2);
        for (int e = 0; e < 4; e++) {
            int d = (e + 3) % 4;
            NestedDolls x = allFitInto(e);
            due("one is opened in " + e, act(x, e, 12 + 4 * d + e, d), 3);
            due(e + " over an open one", x.act(4 + e), STATE);
            due(e + " over a shut one", act(x, 4 + d, 4 + e), 3);
        }
    }

    private static void taken() {
        says("part 2", "8 .. 11: DOLL that is 8 less is TAKEN: it is on the TABLE then (it is AT HAND, in another one)");
        for (int d = 0; d < 4; d++) {
            refuses(made(), STATE, "act", 8 + d);
            refuses(made(0, 1, 2, 3), STATE, "act", 8 + d);
            refuses(made(ALL_IN_ONE), STATE, "act", 8 + d);
        }
        for (int d = 0; d < 3; d++) {
            NestedDolls x = row(3, 12 + 4 * d + 3);
            due("doll " + d, x.act(8 + d), 4);
            due("where " + d + " is", x.ofDoll(d, 4), 0);
        }
        NestedDolls last = of("n;p76;p10;p10;p32", 0, 24);
        due("the last doll is in", last.ofDoll(3, 4), 1);
        due("the last doll is taken", last.act(11), 4);
        NestedDolls x = row(1, 13, 5, 2, 18, 1, 0);
        due("an open one, with what is in it", x.act(9), 3);
        due("it is open still", x.ofDoll(1, 5), 1);
        due("0 is in it still", x.ofDoll(0, 4), 2);
        due("0 is open still", x.ofDoll(0, 5), 1);
        refuses(made(1, 13, 5), STATE, "act", 8);
        refuses(made(1, 13, 5, 2, 18), STATE, "act", 8);
        due("from the middle", act(row(ALL_IN_ONE), 3, 2, 9), 2);
    }

    private static void put() {
        says("part 2", "DOLL d is PUT into DOLL e (they are unlike; d is on the TABLE, SHUT, and FITS; e is AT HAND, "
            + "OPEN, nothing is in it)");
        for (int d = 0; d < 4; d++) {
            refuses(made(), STATE, "act", 12 + 5 * d);
            refuses(made(0, 1, 2, 3), STATE, "act", 12 + 5 * d);
        }
        // d is in another one, itself; then d is open; then it does not fit; then e is shut, is full, is not at hand
        refuses(made(1, 13, 2), STATE, "act", 14);
        refuses(made(1, 13), STATE, "act", 13);
        refuses(made(0, 1), STATE, "act", 13);
        refuses(made(0), STATE, "act", 16);
        refuses(made(), STATE, "act", 13);
        refuses(made(2, 14), STATE, "act", 18);
        refuses(made(2, 18, 6), STATE, "act", 13);
        refuses(made(2, 18), STATE, "act", 13);
        due("just as wide as the room", act(of("n;p32;p43"), 1, 13), 1);
        refuses(() -> of("n;b32;p43", 1), STATE, "act", 13);
        due("into one within another", act(row(), 2, 18, 1, 13), 2);
        due("with one within it", act(row(), 1, 13, 5, 2, 18), 2);
        refuses(made(1, 13, 2), STATE, "act", 18);
        due("into one that was emptied", act(row(), 2, 14, 8, 18), 3);
    }

    private static void everyPut() {
        says("part 2", "12 and 4 d and e");
        for (int d = 0; d < 4; d++) {
            for (int e = 0; e < 4; e++) {
                NestedDolls x = allFitInto(e);
                x.act(e);
                due(d + " into " + e, x.act(12 + 4 * d + e), d == e ? STATE : 3);
                due("where " + d + " is", x.ofDoll(d, 4), d == e ? 0 : 1 + e);
                due("what is in " + e, x.ofDoll(e, 7), d == e ? NONE : d);
            }
        }
    }

    private static void dayFromNow() {
        says("part 2", "A DAY told: a row of ACTS, one behind another, from how all is now (nothing is changed).");
        NestedDolls x = row(1, 13);
        write(x, 1, INTS, 8, 0, 5);
        String ahead = seen(x);
        int[] due = {4, NONE, bits(0), 15, 0, 0, 0, 0, 0};
        for (int k = 0; k < WHATS.length; k++) {
            due("what " + WHATS[k], x.day(1, INTS, 0, 3, WHATS[k]), due[k]);
        }
        due("what is seen behind", seen(x), ahead);
        due("its first act can't be from anew", day(row(), 1, 8, 0, 5), 0);
        x.anew();
        due("nor when all is made anew", x.day(1, INTS, 0, 3, 1), 0);
    }

    private static void firstWrong() {
        says("part 2", "FIRST WRONG: the first that can't be (it is not as told in brackets");
        due("none", day(row(), 1, 1, 13, 5), NONE);
        due("the first", day(row(), 1, 13, 1, 5), 0);
        due("the first of two", day(row(), 1, 1, 1, 1), 1);
        due("the last", day(row(), 1, 1, 13, 5, 5), 3);
        due("one that could be later", day(row(), 1, 0, 13, 4, 1, 13), 1);
        due("one that could be first", day(row(), 1, 1, 13, 1), 2);
        due("by what is within", day(row(), 1, 1, 13, 0, 5), 3);
    }

    private static void noSuchDoll() {
        says("part 2", "there is no such DOLL)");
        for (int act : new int[] {3, 7, 11, 15, 19, 23, 24, 25, 26, 27}) {
            due("three dolls, act " + act, day(of("n;p10;p32;p54", 0, 1, 2), 1, 6, act), 1);
            refuses(() -> of("n;p10;p32;p54", 0, 1, 2), STATE, "act", act);
        }
        for (int act = 0; act < 28; act++) {
            due("one doll, act " + act, day(of("n;p98"), 1, act), act == 0 ? NONE : 0);
        }
        // a doll of an earlier text is no such one
        NestedDolls x = row(3);
        take(x, "n;p10;p32");
        due("opened", x.act(3), STATE);
        due("put into it", x.act(15), STATE);
    }

    // ---- promise 7

    private static void actAnswers() {
        says("promise 7", "An ACT (0 .. 27) is done: how many DOLLS are on the TABLE then.");
        NestedDolls x = row();
        int[] due = {4, 3, 3, 3, 2, 2, 2, 1, 1};
        for (int k = 0; k < due.length; k++) {
            due("act " + ALL_IN_ONE[k], x.act(ALL_IN_ONE[k]), due[k]);
        }
        due("acts done", x.many(3), 9);
        due("the first act", row().act(0), 4);
        NestedDolls y = of("n;p10;p10;p76;p32", 2);
        due("the last act that can ever be", y.act(26), 3);
        due("one doll alone", act(of("n;p10"), 0), 1);
    }

    private static void actOutside() {
        says("promise 7", "OUTSIDE");
        for (int act : new int[] {-1, 28, LOW, FAR}) {
            refuses(made(0, 1, 2, 3), OUTSIDE, "act", act);
            refuses(Sentences::busy, OUTSIDE, "act", act);
            refuses(Sentences::none, OUTSIDE, "act", act);
        }
    }

    private static void actState() {
        says("promise 7", "STATE: there are no DOLLS, it can't be.");
        for (int act = 0; act < 28; act++) {
            refuses(Sentences::none, STATE, "act", act);
        }
        refuses(Sentences::busy, STATE, "act", 27);
        refuses(Sentences::busy, STATE, "act", 0);
    }

    // ---- promises 8, 9

    private static void anewAnswers() {
        says("promise 8", "All DOLLS are on the TABLE, SHUT: how many were not on it.");
        due("all in one", row(ALL_IN_ONE).anew(), 3);
        due("one in one", row(1, 13).anew(), 1);
        due("none", row(0, 1, 2, 3).anew(), 0);
        due("one doll", of("n;p10", 0).anew(), 0);
        NestedDolls x = row(ALL_IN_ONE);
        act(x, 3, 2, 1, 0);
        due("all in one, all open", x.anew(), 3);
        for (int d = 0; d < 4; d++) {
            due("where " + d + " is", x.ofDoll(d, 4), 0);
            due("whether " + d + " is open", x.ofDoll(d, 5), 0);
        }
        due("on the table", x.many(1), 4);
        due("open", x.many(2), 0);
        due("again", x.anew(), 0);
    }

    private static void anewState() {
        says("promise 8", "STATE: there are no DOLLS.");
        refuses(Sentences::none, STATE, "anew");
        refuses(BoundsOfActs::afterWrongText, STATE, "anew");
    }

    private static NestedDolls afterWrongText() {
        NestedDolls x = none();
        take(x, "n;p11");
        return x;
    }

    private static void canAnswers() {
        says("promise 9", "ACTS that can be now, as a set.");
        due("one doll", of("n;p10").can(), bits(0));
        due("one doll, open", of("n;p10", 0).can(), bits(4));
        due("all shut", row().can(), bits(0, 1, 2, 3));
        due("all open", row(0, 1, 2, 3).can(), bits(4, 5, 6, 7));
        due("the widest open", row(3).can(), bits(0, 1, 2, 7, 15, 19, 23));
        due("all in one", row(ALL_IN_ONE).can(), bits(3));
        NestedDolls x = row(ALL_IN_ONE);
        due("opened", x.act(3), 1);
        due("the widest open over all", x.can(), bits(2, 7, 10));
        due("the last doll put into one that is not the last", of("n;p10;p10;p76;p32", 2).can(),
            bits(0, 1, 3, 6, 14, 18, 26));
        due("nothing can be without a doll that can", of("n;s98;s98", 0, 1).can(), bits(4, 5));
    }

    private static void canIsWhatActDoes() {
        says("promise 9", "ACTS that can be now");
        int[][] stands = {{}, {0}, {3}, {0, 1, 2, 3}, {1, 13}, {1, 13, 0}, {1, 13, 5, 2, 18}, {1, 13, 5, 2, 18, 1},
            {2, 18, 1}, {2, 18, 1, 13, 0}, {3, 15, 0, 2, 18, 1}, ALL_IN_ONE};
        for (int[] acts : stands) {
            int can = row(acts).can();
            for (int act = 0; act < 28; act++) {
                due("act " + act + " behind " + acts.length, row(acts).act(act) != STATE, (can >> act & 1) == 1);
            }
            due("nothing beyond", can >> 28, 0);
        }
    }

    private static void canState() {
        says("promise 9", "STATE: there are no DOLLS.");
        refuses(Sentences::none, STATE, "can");
        refuses(BoundsOfActs::afterWrongText, STATE, "can");
    }

    // ---- promise 10

    private static void daysOfAllLengths() {
        says("promise 10", "n (0 .. 20)");
        NestedDolls x = of("n;p10");
        x.sheet(1, SHORTS, 60);
        for (int i = 0; i < 60; i++) {
            x.put(1, i, i % 2 == 0 ? 0 : 4);
        }
        for (int n = 0; n <= 20; n++) {
            due(n + " acts", x.day(1, SHORTS, 0, n, 1), NONE);
            due(n + " acts, open ones", x.day(1, SHORTS, 0, n, 2), n % 2);
        }
        due("the last twenty", x.day(1, SHORTS, 40, 20, 0), 1);
        for (int n : new int[] {-1, 21, LOW, FAR}) {
            due(n + " acts", x.day(1, SHORTS, 0, n, 0), OUTSIDE);
            refuses(Sentences::busy, OUTSIDE, "day", 3, BYTES, 0, n, 0);
            refuses(Sentences::none, OUTSIDE, "day", 3, BYTES, 0, n, 0);
        }
    }

    private static void dayWhats() {
        says("promise 10", "how many DOLLS are on the TABLE then (what 0), its FIRST WRONG (1; NONE), which are OPEN then, "
            + "as a set (2), which are AT HAND then, as a set (3), the most that are within one then (4), where DOLL d "
            + "is then (10 and d; 0 on the TABLE, 1 and e in DOLL e");
        int[][] days = {{}, {0, 1, 2, 3}, ALL_IN_ONE, {1, 13, 5, 2, 18, 6, 3, 23}, {3, 15, 2, 18}};
        int[][] due = {{4, NONE, 0, 15, 0, 0, 0, 0, 0}, {4, NONE, 15, 15, 0, 0, 0, 0, 0},
            {1, NONE, 0, bits(3), 3, 2, 3, 4, 0}, {1, NONE, bits(3), bits(2, 3), 3, 2, 3, 4, 0},
            {2, NONE, bits(2, 3), 15, 1, 4, 3, 0, 0}};
        for (int t = 0; t < days.length; t++) {
            for (int k = 0; k < WHATS.length; k++) {
                due("day " + t + " what " + WHATS[k], day(row(), WHATS[k], days[t]), due[t][k]);
            }
        }
        due("in the first one", day(of("n;p98;p10"), 11, 0, 16), 1);
        due("the most within the first one", day(of("n;p98;p10"), 4, 0, 16), 1);
        due("the most within the last one", day(of("n;p10;p98"), 4, 1, 13), 1);
    }

    private static void dayWithoutSuchDoll() {
        says("promise 10", "NONE: there is no such DOLL");
        for (int many = 1; many <= 4; many++) {
            NestedDolls x = of(ROW.substring(0, 1 + 4 * many));
            for (int d = 0; d < 4; d++) {
                due("doll " + d + " of " + many, day(x, 10 + d, 0), d < many ? 0 : NONE);
            }
        }
    }

    private static void dayWithFirstWrong() {
        says("promise 10", "of one with a FIRST WRONG: -100 less that (but what 1)");
        int[] twenty = {0, 4, 0, 4, 0, 4, 0, 4, 0, 4, 0, 4, 0, 4, 0, 4, 0, 4, 0, 0};
        for (int what : WHATS) {
            due("the first, what " + what, day(row(), what, 4), what == 1 ? 0 : -100);
            due("the third, what " + what, day(row(), what, 1, 13, 13), what == 1 ? 2 : -102);
            due("the twentieth, what " + what, day(row(), what, twenty), what == 1 ? 19 : -119);
        }
    }

    private static void dayUnknown() {
        says("promise 10", "UNKNOWN: SHEET");
        for (int k : new int[] {-1, 4, LOW, FAR}) {
            refuses(Sentences::busy, UNKNOWN, "day", k, INTS, 0, 1, 0);
            refuses(Sentences::busy, UNKNOWN, "day", k, 3, -1, 21, 5);
            refuses(Sentences::none, UNKNOWN, "day", k, INTS, 0, 0, 0);
        }
    }

    private static void dayOutside() {
        says("promise 10", "OUTSIDE: lane, n (0 .. 20), what (0 .. 4, 10 .. 13)");
        for (int lane : new int[] {-1, 3, LOW, FAR}) {
            refuses(Sentences::busy, OUTSIDE, "day", 1, lane, 0, 1, 0);
            refuses(Sentences::busy, OUTSIDE, "day", 3, lane, -1, 1, 0);
        }
        for (int what : new int[] {-1, 5, 6, 7, 8, 9, 14, LOW, FAR}) {
            refuses(Sentences::busy, OUTSIDE, "day", 1, INTS, 0, 0, what);
            refuses(Sentences::busy, OUTSIDE, "day", 3, BYTES, -1, 0, what);
            refuses(Sentences::none, OUTSIDE, "day", 3, BYTES, 0, 0, what);
        }
    }

    private static void dayFaults() {
        says("promise 10", "FAULTS CAST, NULL, INDEX");
        refuses(Sentences::busy, CAST, "day", 1, BYTES, 0, 1, 0);
        refuses(Sentences::busy, CAST, "day", 1, SHORTS, -1, 5, 0);
        refuses(Sentences::busy, CAST, "day", 0, INTS, 0, 0, 0);
        for (int lane = BYTES; lane <= INTS; lane++) {
            refuses(Sentences::busy, NULL, "day", 3, lane, -1, 20, 0);
            refuses(Sentences::none, NULL, "day", 3, lane, 0, 0, 0);
        }
        refuses(Sentences::busy, INDEX, "day", 1, INTS, 0, 5, 0);
        refuses(Sentences::busy, INDEX, "day", 1, INTS, 4, 1, 0);
        refuses(Sentences::busy, INDEX, "day", 1, INTS, 5, 0, 0);
        refuses(Sentences::busy, INDEX, "day", 1, INTS, -1, 0, 0);
        refuses(Sentences::busy, INDEX, "day", 1, INTS, -1, 1, 0);
        refuses(Sentences::busy, INDEX, "day", 1, INTS, FAR, 20, 0);
        refuses(Sentences::busy, INDEX, "day", 1, INTS, LOW, 20, 0);
        refuses(Sentences::busy, INDEX, "day", 2, SHORTS, 0, 1, 0);
        due("none of them at the end", busy().day(1, INTS, 4, 0, 0), 2);
        due("none of an empty row", busy().day(2, SHORTS, 0, 0, 0), 2);
    }

    private static NestedDolls sheetsAlone() {
        NestedDolls x = none();
        write(x, 1, INTS, 28, -1, 0);
        return x;
    }

    private static void dayState() {
        says("promise 10", "STATE: there are no DOLLS");
        refuses(BoundsOfActs::sheetsAlone, STATE, "day", 1, INTS, 0, 0, 0);
        refuses(BoundsOfActs::sheetsAlone, STATE, "day", 1, INTS, 2, 1, 1);
        refuses(BoundsOfActs::sheetsAlone, STATE, "day", 1, INTS, 0, 3, 13);
        refuses(BoundsOfActs::sheetsAlone, INDEX, "day", 1, INTS, 0, 4, 0);
        refuses(BoundsOfActs::sheetsAlone, CAST, "day", 1, BYTES, 0, 3, 0);
    }

    private static void dayCells() {
        says("promise 10", "OUTSIDE: a cell is not 0 .. 27.");
        for (int what : WHATS) {
            refuses(Sentences::busy, OUTSIDE, "day", 1, INTS, 0, 2, what);
            refuses(Sentences::busy, OUTSIDE, "day", 1, INTS, 2, 1, what);
        }
        for (int cell : new int[] {-1, 28, LOW, FAR}) {
            due("cell " + cell, day(row(), 1, cell), OUTSIDE);
            due("cell " + cell + " behind a wrong one", day(row(), 1, 4, cell), OUTSIDE);
            due("cell " + cell + " as the last of twenty",
                day(row(), 0, 0, 4, 0, 4, 0, 4, 0, 4, 0, 4, 0, 4, 0, 4, 0, 4, 0, 4, 0, cell), OUTSIDE);
        }
        due("0", day(row(), 1, 0), NONE);
        due("27", day(row(), 1, 27), 0);
        NestedDolls x = row();
        write(x, 1, INTS, 28, 0, 4, 28);
        due("cells beside those that are taken", x.day(1, INTS, 1, 2, 0), 4);
        write(x, 1, BYTES, 256, 260);
        due("cells that were cut", x.day(1, BYTES, 0, 2, 0), 4);
    }
}
