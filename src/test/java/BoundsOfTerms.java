/** Each sentence of 'What it is', 'The public face' and 'Terms' that names a boundary case, by a test of its own. */
public final class BoundsOfTerms extends Sentences {
    /** A whole life of calls, those that make the object ready among them. */
    private static final int CALLS = 512;

    public static void main(String[] args) {
        lastCallOfAll();
        constants();
        unknown();
        outside();
        state();
        full();
        unknownAheadOfOutside();
        outsideAheadOfState();
        orderOfFull();
        orderOfFewest();
        orderOfDay();
        refusalsAheadOfFaults();
        refusalsChangeNothing();
        faultNull();
        faultCast();
        faultIndex();
        faultIndexOfNone();
        faultSize();
        firstFaultThatIsComeTo();
        minusTenLessIt();
        lostForLongs();
        faultsChangeNothing();
        noneIsMinusNine();
        setsAsBits();
        shares();
        end();
    }

    private static NestedDolls fullOfReadings() {
        NestedDolls x = of("n;p20;p43");
        for (int r = 0; r < 8; r++) {
            x.reading(0, 1, 1);
        }
        return x;
    }

    /** Without DOLLS; SHEET 1 has ints that are no ACTS. */
    private static NestedDolls sheetsAlone() {
        NestedDolls x = none();
        write(x, 1, INTS, 28, -1, 0, 0);
        return x;
    }

    private static void lastCallOfAll() {
        says("what it is", "An object is used for at most 512 calls after it has been made");
        int ready = 1 + 5 + 1;
        NestedDolls acting = of("n;p10");
        for (int k = ready; k < CALLS - 1; k++) {
            acting.act((k - ready) % 2 * 4);
        }
        due("acts done, as the last call", acting.many(3), CALLS - 1 - ready);
        NestedDolls telling = of("n;s98");
        int trace = 0;
        for (int k = ready; k < CALLS - 1; k++) {
            telling.tell(0);
            trace = (((trace * 31 + 3) * 31 + 2) * 31 + 1) * 31 + 1;
        }
        due("trace, as the last call", telling.trace(), trace);
        NestedDolls writing = none();
        for (int k = 0; k < CALLS - 1; k++) {
            writing.sheet(k % 4, k % 3, 60);
        }
        due("a cell, as the last call", writing.put(3, 59, 1), 1);
        NestedDolls searching = of("n;p10;p32;p54;p76");
        for (int k = 19; k < CALLS - 1; k += 2) {
            searching.act(k % 4 == 3 ? 3 : 7);
            searching.stands(0);
        }
        due("stands, as the last call", searching.stands(0), 152);
    }

    private static void constants() {
        says("the public face", "UNKNOWN = -1, OUTSIDE = -2, STATE = -3, FULL = -4, NONE = -9; LOST = Long.MIN_VALUE");
        due("UNKNOWN", NestedDolls.UNKNOWN, -1);
        due("OUTSIDE", NestedDolls.OUTSIDE, -2);
        due("STATE", NestedDolls.STATE, -3);
        due("FULL", NestedDolls.FULL, -4);
        due("NONE", NestedDolls.NONE, -9);
        due("LOST", NestedDolls.LOST, Long.MIN_VALUE);
    }

    // ---- refusals

    private static void unknown() {
        says("terms", "UNKNOWN (there is no such DOLL, SHEET, place of a row)");
        String[] ofDolls = {"tell", "shake", "girths", "rooms", "kinds"};
        for (String name : ofDolls) {
            due(name + " of the last doll", call(busy(), name, 3) >= 0, true);
            due(name + " of one beyond", call(busy(), name, 4), UNKNOWN);
            due(name + " of one below", call(busy(), name, -1), UNKNOWN);
            due(name + " without dolls", call(none(), name, 0), UNKNOWN);
        }
        due("the last sheet", busy().lose(3), 0);
        due("a sheet beyond", busy().lose(4), UNKNOWN);
        due("a sheet below", busy().lose(-1), UNKNOWN);
    }

    private static void outside() {
        says("terms", "OUTSIDE (another number is not as told)");
        due("act", busy().act(28), OUTSIDE);
        due("back", busy().back(3), OUTSIDE);
        due("girth", busy().girth(0, 0), OUTSIDE);
        due("lane", busy().sheet(0, 3, 0), OUTSIDE);
        due("what", busy().many(5), OUTSIDE);
    }

    private static void state() {
        says("terms", "STATE (as told)");
        String[] names = {"anew", "can", "chain"};
        for (String name : names) {
            due(name + " without dolls", call(none(), name), STATE);
            due(name + " of one doll", call(of("n;p10"), name) >= 0, true);
        }
        due("an act without dolls", none().act(0), STATE);
        due("an act that can't be", of("n;p10").act(4), STATE);
        due("an act that can be", of("n;p10").act(0), 1);
    }

    private static void full() {
        says("terms", "FULL");
        due("a ninth reading", fullOfReadings().reading(0, 1, 1), FULL);
    }

    private static void unknownAheadOfOutside() {
        says("terms", "REFUSALS, in the order in which a call's line tells them: UNKNOWN, OUTSIDE");
        due("dolls", none().dolls(4, 3, 0, 0), UNKNOWN);
        due("ofDoll", busy().ofDoll(4, 9), UNKNOWN);
        due("girth", busy().girth(4, 0), UNKNOWN);
        due("room", busy().room(4, 10), UNKNOWN);
        due("day", busy().day(4, 3, 0, 21, 5), UNKNOWN);
        due("fewest", busy().fewest(4, 3, 0, 60), UNKNOWN);
        due("reading", busy().reading(4, 0, 2), UNKNOWN);
        due("reading, the same", busy().reading(0, 0, 2), UNKNOWN);
        due("sheet", busy().sheet(4, 3, 61), UNKNOWN);
        due("as", busy().as(4, 3), UNKNOWN);
    }

    private static void outsideAheadOfState() {
        says("terms", "REFUSALS, in the order in which a call's line tells them: OUTSIDE, STATE");
        due("act", none().act(28), OUTSIDE);
        due("stands", none().stands(4), OUTSIDE);
        due("tidy", none().tidy(4), OUTSIDE);
        due("day", sheetsAlone().day(1, INTS, 0, 21, 0), OUTSIDE);
    }

    private static void orderOfFull() {
        says("terms", "REFUSALS, in the order in which a call's line tells them: UNKNOWN, OUTSIDE, FULL");
        due("unknown and full", fullOfReadings().reading(0, 2, 1), UNKNOWN);
        due("outside and full", fullOfReadings().reading(0, 1, 2), OUTSIDE);
        due("all three", fullOfReadings().reading(0, 2, 2), UNKNOWN);
        due("full alone", fullOfReadings().reading(0, 1, 1), FULL);
    }

    private static void orderOfFewest() {
        says("promise 11", "STATE: there are no DOLLS; UNKNOWN: SHEET; OUTSIDE: lane, k; FAULTS CAST, NULL, INDEX; OUTSIDE: a "
            + "cell is not 0 .. how many DOLLS there are.");
        due("all of them", none().fewest(4, 3, -1, 60), STATE);
        due("but the first", busy().fewest(4, 3, -1, 60), UNKNOWN);
        due("but the first two", busy().fewest(1, 3, -1, 60), OUTSIDE);
        due("of nothing", busy().fewest(3, INTS, -1, -1), NULL);
        due("of another lane", busy().fewest(1, BYTES, -1, -1), CAST);
        due("of cells that are not there", busy().fewest(1, INTS, 1, -1), INDEX);
        due("of cells that are not as told", busy().fewest(1, INTS, 0, -1), OUTSIDE);
    }

    private static void orderOfDay() {
        says("promise 10", "UNKNOWN: SHEET; OUTSIDE: lane, n (0 .. 20), what (0 .. 4, 10 .. 13); FAULTS CAST, NULL, INDEX; STATE: "
            + "there are no DOLLS; OUTSIDE: a cell is not 0 .. 27.");
        due("all of them", sheetsAlone().day(4, 3, -1, 21, 5), UNKNOWN);
        due("but the first", sheetsAlone().day(3, 3, -1, 20, 0), OUTSIDE);
        due("n below 0 is no size", sheetsAlone().day(3, BYTES, -1, -1, 0), OUTSIDE);
        due("of nothing", sheetsAlone().day(3, BYTES, -1, 20, 0), NULL);
        due("of another lane", sheetsAlone().day(1, BYTES, -1, 20, 0), CAST);
        due("of cells that are not there", sheetsAlone().day(1, INTS, 0, 5, 0), INDEX);
        due("without dolls", sheetsAlone().day(1, INTS, 0, 4, 0), STATE);
        due("of cells that are not as told", busy().day(1, INTS, 0, 4, 0), OUTSIDE);
    }

    private static void refusalsAheadOfFaults() {
        says("terms", "REFUSALS, in the order in which a call's line tells them: ahead of FAULTS");
        refuses(Sentences::busy, UNKNOWN, "dolls", 4, BYTES, -1, -1);
        refuses(Sentences::busy, OUTSIDE, "dolls", 3, 3, -1, -1);
        refuses(Sentences::busy, UNKNOWN, "sheet", 4, BYTES, -1);
        refuses(Sentences::busy, OUTSIDE, "sheet", 0, 3, -1);
        refuses(Sentences::busy, UNKNOWN, "put", 4, -1, 0);
        loses(Sentences::busy, 0, "cell", 4, -1, BYTES);
        loses(Sentences::busy, 0, "cell", 3, -1, 3);
        refuses(Sentences::busy, UNKNOWN, "copy", 3, -1, 4, -1, -1);
        refuses(Sentences::busy, UNKNOWN, "as", 4, 2);
        refuses(Sentences::busy, OUTSIDE, "as", 0, 3);
    }

    private static void refusalsChangeNothing() {
        says("terms", "they change nothing (but fault(), of a call that names FAULTS)");
        String[] names = {"dolls", "ofDoll", "girth", "room", "fits", "act", "day", "fewest", "stands", "tidy", "reading",
            "back", "girths", "rooms", "kinds", "sheet", "lose", "put", "copy", "tell", "shake", "as", "many"};
        int[][] numbers = {{0, 3, 0, 17}, {0, 9}, {1, 3}, {1, 4}, {0, 0}, {0}, {1, 2, 0, 4, 0}, {1, 2, 0, -1}, {4}, {4},
            {0, 1, 2}, {3}, {4}, {4}, {4}, {0, 0, 61}, {4}, {4, 0, 0}, {0, 0, 4, 0, 1}, {4}, {4}, {0, 3}, {5}};
        int[] answers = {OUTSIDE, OUTSIDE, OUTSIDE, OUTSIDE, UNKNOWN, STATE, OUTSIDE, OUTSIDE, OUTSIDE, OUTSIDE, OUTSIDE,
            OUTSIDE, UNKNOWN, UNKNOWN, UNKNOWN, OUTSIDE, UNKNOWN, UNKNOWN, UNKNOWN, UNKNOWN, UNKNOWN, OUTSIDE, OUTSIDE};
        for (int k = 0; k < names.length; k++) {
            refuses(Sentences::busy, answers[k], names[k], numbers[k]);
        }
        loses(Sentences::busy, 0, "odds", 2);
        loses(Sentences::busy, 0, "cell", 4, 0, 0);
        refuses(BoundsOfTerms::fullOfReadings, FULL, "reading", 1, 0, 1);
    }

    // ---- faults

    private static void faultNull() {
        says("terms", "1 NULL (there is nothing)");
        refuses(Sentences::busy, NULL, "dolls", 3, BYTES, 0, 0);
        refuses(Sentences::busy, NULL, "day", 3, BYTES, 0, 0, 0);
        refuses(Sentences::busy, NULL, "fewest", 3, BYTES, 0, 0);
        refuses(Sentences::busy, NULL, "put", 3, 0, 0);
        loses(Sentences::busy, 1, "cell", 3, 0, BYTES);
        refuses(Sentences::busy, NULL, "copy", 3, 0, 0, 0, 0);
        refuses(Sentences::busy, NULL, "copy", 0, 0, 3, 0, 0);
    }

    private static void faultCast() {
        says("terms", "2 CAST (it is of another lane, kind)");
        refuses(Sentences::busy, CAST, "dolls", 0, INTS, 0, 17);
        refuses(Sentences::busy, CAST, "day", 1, BYTES, 0, 0, 0);
        refuses(Sentences::busy, CAST, "fewest", 1, BYTES, 0, 0);
        loses(Sentences::busy, 2, "cell", 0, 0, SHORTS);
        refuses(Sentences::busy, CAST, "copy", 0, 0, 1, 0, 0);
        refuses(Sentences::busy, CAST, "as", 0, 2);
    }

    private static void faultIndex() {
        says("terms", "3 INDEX");
        refuses(Sentences::busy, INDEX, "dolls", 0, BYTES, 1, 17);
        refuses(Sentences::busy, INDEX, "day", 1, INTS, 1, 4, 0);
        refuses(Sentences::busy, INDEX, "fewest", 1, INTS, 1, 0);
        refuses(Sentences::busy, INDEX, "put", 1, 4, 0);
        loses(Sentences::busy, 3, "cell", 1, 4, INTS);
        refuses(Sentences::busy, INDEX, "copy", 1, 1, 1, 0, 4);
    }

    private static void faultIndexOfNone() {
        says("terms", "(of cells from i on also where i is not 0 .. how many there are, if none of them is taken, too)");
        for (int i : new int[] {-1, 5, LOW, FAR}) {
            refuses(Sentences::busy, INDEX, "dolls", 1, INTS, i, 0);
            refuses(Sentences::busy, INDEX, "day", 1, INTS, i, 0, 0);
            refuses(Sentences::busy, INDEX, "copy", 1, i, 1, 0, 0);
            refuses(Sentences::busy, INDEX, "copy", 1, 0, 1, i, 0);
        }
        for (int i = 0; i <= 4; i++) {
            due("a text of none from " + i, busy().dolls(1, INTS, i, 0), -100);
            due("a day of none from " + i, busy().day(1, INTS, i, 0, 0), 2);
            due("none from " + i, busy().copy(1, i, 1, 0, 0), 0);
            due("none to " + i, busy().copy(1, 0, 1, i, 0), 0);
        }
    }

    private static void faultSize() {
        says("terms", "4 SIZE (a length below 0)");
        refuses(Sentences::busy, SIZE, "dolls", 0, BYTES, 0, -1);
        refuses(Sentences::busy, SIZE, "sheet", 0, BYTES, -1);
        refuses(Sentences::busy, SIZE, "sheet", 0, BYTES, LOW);
        due("0 is none", busy().sheet(0, BYTES, 0), 1);
    }

    private static void firstFaultThatIsComeTo() {
        says("terms", "Of a call the first that is come to, in the order told");
        refuses(Sentences::busy, CAST, "dolls", 0, INTS, -1, -1);
        refuses(Sentences::busy, NULL, "dolls", 3, INTS, -1, -1);
        refuses(Sentences::busy, SIZE, "dolls", 0, BYTES, -1, -1);
        refuses(Sentences::busy, CAST, "day", 1, BYTES, -1, 20, 0);
        refuses(Sentences::busy, NULL, "day", 3, BYTES, -1, 20, 0);
        refuses(Sentences::busy, CAST, "fewest", 1, BYTES, -1, 0);
        refuses(Sentences::busy, NULL, "fewest", 3, BYTES, -1, 0);
        refuses(Sentences::busy, NULL, "put", 3, -1, 0);
        loses(Sentences::busy, 2, "cell", 0, -1, INTS);
        loses(Sentences::busy, 1, "cell", 3, -1, INTS);
        refuses(Sentences::busy, NULL, "copy", 3, -1, 1, -1, -1);
        refuses(Sentences::busy, NULL, "copy", 1, -1, 3, -1, -1);
        refuses(Sentences::busy, CAST, "copy", 0, -1, 1, -1, -1);
        refuses(Sentences::busy, INDEX, "copy", 0, -1, 0, -1, -1);
    }

    private static void minusTenLessIt() {
        says("terms", "it answers -10 less it (LOST, where a long is answered, as for refusals) and changes nothing; fault() "
            + "tells it.");
        NestedDolls x = busy();
        int[] answers = {x.put(3, 0, 0), x.fault(), x.as(0, 1), x.fault(), x.put(0, 17, 0), x.fault(), x.sheet(0, 0, -1),
            x.fault()};
        for (int fault = 1; fault <= 4; fault++) {
            due("the answer of fault " + fault, answers[2 * fault - 2], -10 - fault);
            due("fault " + fault, answers[2 * fault - 1], fault);
        }
    }

    private static void lostForLongs() {
        says("terms", "(LOST, where a long is answered, as for refusals)");
        NestedDolls x = busy();
        due("cell of nothing", x.cell(3, 0, 0), LOST);
        due("its fault", x.fault(), 1);
        due("cell of another lane", x.cell(0, 0, 2), LOST);
        due("its fault", x.fault(), 2);
        due("cell beyond", x.cell(0, 17, 0), LOST);
        due("its fault", x.fault(), 3);
        due("cell of no sheet", x.cell(4, 0, 0), LOST);
        due("its fault", x.fault(), 0);
        due("odds of no number", x.odds(2), LOST);
        due("odds of one doll", of("n;p10").odds(0), LOST);
    }

    private static void faultsChangeNothing() {
        says("terms", "and changes nothing");
        refuses(Sentences::busy, CAST, "dolls", 0, SHORTS, 0, 17);
        refuses(Sentences::busy, INDEX, "dolls", 0, BYTES, 0, 18);
        refuses(Sentences::busy, SIZE, "sheet", 1, INTS, -1);
        refuses(Sentences::busy, INDEX, "put", 1, 4, 9);
        refuses(Sentences::busy, INDEX, "copy", 1, 0, 1, 2, 3);
        refuses(Sentences::busy, INDEX, "copy", 1, 2, 1, 0, 3);
    }

    // ---- none, sets, shares

    private static void noneIsMinusNine() {
        says("terms", "NONE is -9.");
        due("nothing is in it", of("n;p10").ofDoll(0, 7), -9);
        due("no first wrong", day(of("n;p10"), 1, 0), -9);
        due("no such doll of a day", day(of("n;p10"), 11, 0), -9);
        due("by none", fewest(of("n;p10"), -1, 1), -9);
        due("not so many", fewest(of("n;p10"), 0, 0), -9);
        due("no such doll of tidy", of("n;p10").tidy(1), -9);
    }

    private static void setsAsBits() {
        says("terms", "Sets are told as bits (bit k for number k).");
        due("girths", of("n;p10").girths(0), 0b1111111110);
        due("rooms", of("n;p10").rooms(0), 0b1111111111);
        due("kinds", of("n;p10").kinds(0), 0b111);
        due("acts", of("n;p10;p10;p10;p10", 0, 3).can(), 0b10010110);
        due("open ones", day(of("n;p10;p10;p10;p10"), 2, 0, 3), 0b1001);
        due("those at hand", day(of("n;p10;p10;p10;p32"), 3, 3, 15, 7), 0b1110);
        NestedDolls x = of("n;p10;p21");
        x.reading(0, 1, 0);
        x.reading(0, 1, 1);
        due("an empty set", x.girths(0), 0);
    }

    private static void shares() {
        says("terms", "Shares are told as upper and lower number (above 0) in least terms.");
        due("none, upper", of("n;p98;p98;p98;p98").odds(0), 0);
        due("none, lower", of("n;p98;p98;p98;p98").odds(1), 1);
        due("6 of 12, upper", of("n;p10;p32;p54;p76").odds(0), 1);
        due("6 of 12, lower", of("n;p10;p32;p54;p76").odds(1), 2);
        due("4 of 12, upper", of("n;p10;p10;p32;p32").odds(0), 1);
        due("4 of 12, lower", of("n;p10;p10;p32;p32").odds(1), 3);
        due("5 of 12, upper", of("n;p10;p10;p32;p54").odds(0), 5);
        due("5 of 12, lower", of("n;p10;p10;p32;p54").odds(1), 12);
    }
}
