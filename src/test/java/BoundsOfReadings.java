/** Each sentence of part 4 and of promises 15 to 20 that names a boundary case, by a test of its own. */
public final class BoundsOfReadings extends Sentences {
    private static final int ALL_GIRTHS = 1022, ALL_ROOMS = 1023, ALL_KINDS = 7;

    public static void main(String[] args) {
        eightAtMost();
        numberedByHowMany();
        fitsOrNot();
        allReadingsAreSo();
        inPlaceAlone();
        girthsOneToNine();
        girthsWhateverRoom();
        roomsNoughtToNine();
        roomsWhateverGirth();
        kindsNoughtToTwo();
        oddsOfAllTwos();
        readingUnknown();
        readingOutside();
        readingFull();
        backBounds();
        backOutside();
        setsUnknown();
        oddsAnswers();
        oddsOutside();
        oddsState();
        end();
    }

    private static NestedDolls with(String text, int... readings) {
        NestedDolls x = of(text);
        for (int r = 0; r < readings.length; r += 3) {
            x.reading(readings[r], readings[r + 1], readings[r + 2]);
        }
        return x;
    }

    private static NestedDolls full() {
        return with("n;p20;p43", 0, 1, 1, 0, 1, 1, 0, 1, 1, 0, 1, 1, 0, 1, 1, 0, 1, 1, 0, 1, 1, 1, 0, 0);
    }

    // ---- part 4

    private static void eightAtMost() {
        says("part 4", "READINGS, 8 at most");
        NestedDolls x = of("n;p20;p43");
        for (int r = 0; r < 8; r++) {
            due("reading " + r, x.reading(0, 1, 1), r);
            due("how many behind it", x.many(4), r + 1);
        }
        due("a ninth", x.reading(0, 1, 1), FULL);
        due("how many behind it", x.many(4), 8);
        due("one taken back", x.back(1), 7);
        due("an eighth again", x.reading(1, 0, 1), 7);
        due("a ninth again", x.reading(1, 0, 1), FULL);
    }

    private static void numberedByHowMany() {
        says("part 4", "numbered by how many there are");
        NestedDolls x = of("n;p20;p43;p54");
        due("the first", x.reading(0, 1, 1), 0);
        due("the same once more", x.reading(0, 1, 1), 1);
        due("another one", x.reading(2, 1, 0), 2);
        due("two taken back", x.back(2), 1);
        due("the next", x.reading(2, 1, 0), 1);
        due("all taken back", x.back(2), 0);
        due("the first again", x.reading(0, 1, 0), 0);
    }

    private static void fitsOrNot() {
        says("part 4", "a DOLL FITS into another one (1) or not (0)");
        due("so, 1", with("n;p20;p43", 0, 1, 1).girths(1), ALL_GIRTHS);
        due("not so, 0", with("n;p20;p43", 0, 1, 0).girths(1), 0);
        due("so, 0", with("n;p20;p43", 1, 0, 0).rooms(1), ALL_ROOMS);
        due("not so, 1", with("n;p20;p43", 1, 0, 1).rooms(1), 0);
    }

    private static void allReadingsAreSo() {
        says("part 4", "by which all READINGS are so");
        due("without any", of("n;p20;p43").girths(0), ALL_GIRTHS);
        due("seven that are so, the eighth", full().girths(0), bits(1, 2, 3));
        NestedDolls x = full();
        x.back(1);
        x.reading(1, 0, 1);
        due("seven that are so, the eighth that is not", x.girths(0), 0);
        due("only the last one is asked of", x.girths(1), 0);
        x.back(1);
        due("when it is taken back", x.girths(0), bits(1, 2, 3));
        NestedDolls y = with("n;p20;p43", 0, 1, 1, 0, 1, 0);
        due("two that can't both be: girths", y.girths(0), 0);
        due("two that can't both be: rooms", y.rooms(1), 0);
        due("two that can't both be: kinds", y.kinds(0), 0);
        due("the first that is not so counts, too", with("n;p20;p43", 1, 0, 1, 0, 1, 1).kinds(0), 0);
    }

    private static void inPlaceAlone() {
        says("part 4", "in place of what it is alone");
        NestedDolls x = with("n;p20;p43;p54", 0, 1, 1, 1, 2, 1);
        due("girths of 1", x.girths(1), bits(1, 2, 3, 4));
        due("rooms of 1", x.rooms(1), ALL_ROOMS & ~bits(0, 1));
        due("kinds of 1", x.kinds(1), bits(0));
        due("girth stays", x.ofDoll(1, 1), 4);
        due("room stays", x.ofDoll(1, 2), 3);
        due("kind stays", x.ofDoll(1, 0), 0);
        x.girth(0, 4);
        due("others as they are now", x.rooms(1), ALL_ROOMS & ~bits(0, 1, 2, 3));
        due("a reading of others that is not so", x.girths(2), 0);
        due("its own reading could be so", x.girths(0), bits(1, 2, 3));
    }

    private static void girthsOneToNine() {
        says("part 4", "GIRTHS of a DOLL: GIRTH 1 .. 9");
        due("all", of("n;p10").girths(0), ALL_GIRTHS);
        int[][] widest = {{0, 1, 2, 3, 4, 5, 6, 7, 8}, {0, 0, 1, 2, 3, 4, 5, 6, 7}, {0, 0, 1, 1, 2, 2, 3, 3, 4}};
        for (int kind = 0; kind < 3; kind++) {
            for (int room = 0; room <= 8; room++) {
                int fitting = ALL_GIRTHS & (1 << widest[kind][room] + 1) - 1;
                String text = "n;" + "pbs".charAt(kind) + "10;p9" + room;
                due(text + " fits", with(text, 0, 1, 1).girths(0), fitting);
                due(text + " does not", with(text, 0, 1, 0).girths(0), ALL_GIRTHS & ~fitting);
            }
        }
    }

    private static void girthsWhateverRoom() {
        says("part 4", "(whatever ROOM it has)");
        due("room 8", of("n;p98").girths(0), ALL_GIRTHS);
        due("room 8, of those that fit", with("n;p98;p21", 0, 1, 1).girths(0), bits(1));
        due("girth is asked of the inner one alone", with("n;p10;p98", 0, 1, 1).girths(1), ALL_GIRTHS);
    }

    private static void roomsNoughtToNine() {
        says("part 4", "ROOMS: ROOM 0 .. 9");
        due("all", of("n;p10").rooms(0), ALL_ROOMS);
        String[] texts = {"n;p10;p90", "n;p80;p90", "n;p90;p90", "n;b80;p90", "n;b90;p90", "n;s10;p90", "n;s40;p90",
            "n;s50;p90", "n;s90;p90"};
        int[] least = {1, 8, 9, 9, 10, 2, 8, 10, 18};
        for (int t = 0; t < texts.length; t++) {
            int tooLittle = ALL_ROOMS & (1 << least[t]) - 1;
            due(texts[t] + " fits", with(texts[t], 0, 1, 1).rooms(1), ALL_ROOMS & ~tooLittle);
            due(texts[t] + " does not", with(texts[t], 0, 1, 0).rooms(1), tooLittle);
        }
    }

    private static void roomsWhateverGirth() {
        says("part 4", "(whatever its GIRTH)");
        due("girth 1", of("n;p10").rooms(0), ALL_ROOMS);
        due("room as great as girth, and greater", with("n;p30;p20", 0, 1, 1).rooms(1), ALL_ROOMS & ~bits(0, 1, 2));
        due("room is asked of the outer one alone", with("n;p10;p98", 0, 1, 1).rooms(0), ALL_ROOMS);
    }

    private static void kindsNoughtToTwo() {
        says("part 4", "KINDS: 0 .. 2; as sets.");
        due("all", of("n;p10").kinds(0), ALL_KINDS);
        // girth 3 is 3, 4 or 6 wide
        int[] due = {0, 0, 0, bits(0), bits(0, 1), bits(0, 1), ALL_KINDS, ALL_KINDS, ALL_KINDS};
        for (int room = 0; room <= 8; room++) {
            for (char letter : "pbs".toCharArray()) {
                String text = "n;" + letter + "30;p9" + room;
                due(text + " fits", with(text, 0, 1, 1).kinds(0), due[room]);
                due(text + " does not", with(text, 0, 1, 0).kinds(0), ALL_KINDS & ~due[room]);
            }
        }
        due("girth 1: brushed and swollen are as wide", with("n;p10;p21", 0, 1, 1).kinds(0), bits(0));
        due("girth 1 into 2", with("n;p10;p32", 0, 1, 1).kinds(0), ALL_KINDS);
        due("the outer one's kind does not matter", with("n;p10;s21", 0, 1, 1).kinds(1), ALL_KINDS);
    }

    private static void oddsOf(String text, int upper, int lower) {
        due(text + " upper", of(text).odds(0), upper);
        due(text + " lower", of(text).odds(1), lower);
    }

    private static void oddsOfAllTwos() {
        says("part 4", "ODDS: of all twos of unlike DOLLS, the first, the second, all alike, the share of those of which "
            + "the first FITS into the second.");
        oddsOf("n;p10;p10", 0, 1);
        oddsOf("n;p10;p21", 1, 2);
        oddsOf("n;p21;p10", 1, 2);
        oddsOf("n;p10;p10;p10", 0, 1);
        oddsOf("n;p10;p10;p21", 1, 3);
        oddsOf("n;p10;p20;p21", 1, 6);
        oddsOf("n;p10;p32;p54", 1, 2);
        oddsOf("n;p20;p20;p20;p20", 0, 1);
        oddsOf("n;p10;p20;p20;p21", 1, 12);
        oddsOf("n;p10;p10;p20;p21", 1, 6);
        oddsOf("n;p10;p10;p10;p21", 1, 4);
        oddsOf("n;p10;p10;p32;p32", 1, 3);
        oddsOf("n;p10;p10;p32;p54", 5, 12);
        oddsOf("n;p10;p32;p54;p76", 1, 2);
    }

    // ---- promises 15, 16

    private static void readingUnknown() {
        says("promise 15", "UNKNOWN: either DOLL, both the same");
        for (int d : new int[] {-1, 4, LOW, FAR}) {
            refuses(Sentences::busy, UNKNOWN, "reading", d, 0, 1);
            refuses(Sentences::busy, UNKNOWN, "reading", 0, d, 1);
            refuses(Sentences::busy, UNKNOWN, "reading", d, d, 2);
        }
        for (int d = 0; d < 4; d++) {
            refuses(Sentences::busy, UNKNOWN, "reading", d, d, 0);
            refuses(Sentences::busy, UNKNOWN, "reading", d, d, 2);
        }
        refuses(Sentences::none, UNKNOWN, "reading", 0, 1, 1);
        refuses(Sentences::none, UNKNOWN, "reading", 0, 1, 2);
        refuses(() -> of("n;p10"), UNKNOWN, "reading", 0, 1, 1);
        refuses(BoundsOfReadings::full, UNKNOWN, "reading", 0, 2, 1);
        refuses(BoundsOfReadings::full, UNKNOWN, "reading", 1, 1, 1);
    }

    private static void readingOutside() {
        says("promise 15", "OUTSIDE: fits (0, 1)");
        for (int fits : new int[] {-1, 2, LOW, FAR}) {
            refuses(Sentences::busy, OUTSIDE, "reading", 0, 1, fits);
            refuses(BoundsOfReadings::full, OUTSIDE, "reading", 0, 1, fits);
        }
    }

    private static void readingFull() {
        says("promise 15", "FULL.");
        for (int fits = 0; fits <= 1; fits++) {
            refuses(BoundsOfReadings::full, FULL, "reading", 0, 1, fits);
            refuses(BoundsOfReadings::full, FULL, "reading", 1, 0, fits);
        }
        NestedDolls x = full();
        take(x, "n;p20;p43");
        due("another text leaves room", x.reading(0, 1, 1), 0);
    }

    private static void backBounds() {
        says("promise 16", "The last n READINGS (0 .. as many as there are) are taken back: how many are left.");
        for (int n = 0; n <= 8; n++) {
            NestedDolls x = full();
            due(n + " of eight", x.back(n), 8 - n);
            due("how many", x.many(4), 8 - n);
        }
        due("none of none", of("n;p10").back(0), 0);
        due("without dolls", none().back(0), 0);
        NestedDolls x = with("n;p20;p43", 0, 1, 1, 1, 0, 1);
        x.back(1);
        due("the last one is taken back, not the first", x.girths(0), bits(1, 2, 3));
    }

    private static void backOutside() {
        says("promise 16", "OUTSIDE.");
        for (int n : new int[] {-1, 9, LOW, FAR}) {
            refuses(BoundsOfReadings::full, OUTSIDE, "back", n);
            refuses(Sentences::none, OUTSIDE, "back", n);
        }
        refuses(Sentences::busy, OUTSIDE, "back", 3);
        refuses(Sentences::none, OUTSIDE, "back", 1);
        refuses(() -> of("n;p10"), OUTSIDE, "back", 1);
    }

    // ---- promises 17 to 20

    private static void setsUnknown() {
        String[] names = {"girths", "rooms", "kinds"};
        for (int k = 0; k < names.length; k++) {
            says("promise " + (17 + k), "UNKNOWN.");
            for (int d : new int[] {-1, 4, LOW, FAR}) {
                refuses(Sentences::busy, UNKNOWN, names[k], d);
            }
            refuses(Sentences::none, UNKNOWN, names[k], 0);
            refuses(() -> of("n;p10;p10;p10"), UNKNOWN, names[k], 3);
            due("the last one", call(of("n;p10;p10;p10"), names[k], 2) > 0, true);
        }
    }

    private static void oddsAnswers() {
        says("promise 20", "ODDS (which 0 the upper, 1 the lower number).");
        NestedDolls x = of("n;p20;p43");
        due("upper", x.odds(0), 1);
        due("lower", x.odds(1), 2);
        x.room(1, 1);
        due("upper by another room", x.odds(0), 0);
        due("lower by another room", x.odds(1), 1);
        due("however all is now", of("n;p20;p43", 1, 13).odds(1), 2);
    }

    private static void oddsOutside() {
        says("promise 20", "LOST: OUTSIDE");
        for (int which : new int[] {-1, 2, LOW, FAR}) {
            loses(Sentences::busy, 0, "odds", which);
            loses(Sentences::none, 0, "odds", which);
        }
    }

    private static void oddsState() {
        says("promise 20", "STATE: there are fewer than two DOLLS.");
        for (int which = 0; which <= 1; which++) {
            loses(Sentences::none, 0, "odds", which);
            loses(() -> of("n;p10"), 0, "odds", which);
            due("two dolls", of("n;p10;p10").odds(which), which);
        }
    }
}
