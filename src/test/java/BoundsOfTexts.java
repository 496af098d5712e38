/** Each sentence of part 1 and of promises 1 to 6 that names a boundary case, by a test of its own. */
public final class BoundsOfTexts extends Sentences {
    private static final String FOUR = "n;p10;b20;s32;p98";

    public static void main(String[] args) {
        newObjectHasNothing();
        oneToFourDolls();
        numberedFromNought();
        codesOfEachPlace();
        girthDigits();
        roomDigits();
        placeOfFirstFault();
        fifthDoll();
        endsTooSoon();
        kindsByLetters();
        textMakesAllAnew();
        wide();
        noWiderThanRoom();
        dollsOfCells();
        dollsAnswers();
        dollsRefusals();
        dollsCast();
        dollsNull();
        dollsSize();
        dollsIndex();
        ofDollWhats();
        ofDollInAndWithin();
        ofDollRefusals();
        girthBounds();
        girthStays();
        roomBounds();
        roomStays();
        fitsAnswers();
        fitsRefusals();
        end();
    }

    // ---- promise 1

    private static void newObjectHasNothing() {
        says("promise 1", "No DOLLS, SHEETS have nothing.");
        for (int what = 0; what <= 4; what++) {
            due("many " + what, none().many(what), 0);
        }
        due("doll 0", none().ofDoll(0, 0), UNKNOWN);
        for (int k = 0; k < 4; k++) {
            due("sheet " + k, rowOf(none(), k), "nothing");
            due("lose " + k, none().lose(k), 0);
        }
    }

    // ---- part 1: a text

    private static void oneToFourDolls() {
        says("part 1", "n, then 1 to 4 of them");
        due("none", take(none(), "n"), -101);
        String text = "n";
        for (int many = 1; many <= 4; many++) {
            text += ";p10";
            due(many + " dolls", take(none(), text), many);
        }
        due("five", take(none(), text + ";p10"), -117);
        due("fourteen", take(none(), "n" + ";p10".repeat(14)), -117);
    }

    private static void numberedFromNought() {
        says("part 1", "numbered from 0 on");
        for (int many = 1; many <= 4; many++) {
            NestedDolls x = of("n;p10;p20;p30;p40".substring(0, 1 + 4 * many));
            for (int d = 0; d < many; d++) {
                due("girth of " + d + " of " + many, x.ofDoll(d, 1), d + 1);
            }
            due("one beyond " + many, x.ofDoll(many, 1), UNKNOWN);
            due("one ahead of " + many, x.ofDoll(-1, 1), UNKNOWN);
        }
    }

    /** Whether a TEXT goes on with a code behind what stands; as ints, so that nothing is cut. */
    private static boolean goesOn(String ahead, int code) {
        NestedDolls x = new NestedDolls();
        int[] cells = (ahead + "?").chars().toArray();
        cells[ahead.length()] = code;
        write(x, 1, INTS, cells);
        return x.dolls(1, INTS, 0, cells.length) != -100 - ahead.length();
    }

    private static void goOn(String ahead, String codes) {
        StringBuilder found = new StringBuilder();
        for (int code = -130; code < 400; code++) {
            if (goesOn(ahead, code)) {
                found.append((char) code);
            }
        }
        due("what goes on behind '" + ahead + "'", found.toString(), codes);
        for (char code : codes.toCharArray()) {
            due(code + " and 2^16 behind '" + ahead + "'", goesOn(ahead, code + (1 << 16)), false);
        }
    }

    private static void codesOfEachPlace() {
        says("part 1", "each: ; and a letter (its kind)");
        goOn("", "n");
        goOn("n", ";");
        goOn("n;", "bps");
        goOn("n;p20", ";");
        goOn("n;p20;", "bps");
        goOn("n;p20;p43;p65", ";");
        goOn("n;p20;p43;p65;", "bps");
        goOn(FOUR, "");
    }

    private static void girthDigits() {
        says("part 1", "a digit 1 .. 9 (GIRTH)");
        goOn("n;p", "123456789");
        goOn("n;s", "123456789");
        goOn("n;p20;p43;p65;b", "123456789");
        due("least", of("n;p10").ofDoll(0, 1), 1);
        due("most", of("n;p98").ofDoll(0, 1), 9);
    }

    private static void roomDigits() {
        says("part 1", "a digit 0 .. 9, less than GIRTH (ROOM)");
        for (int girth = 1; girth <= 9; girth++) {
            goOn("n;p" + girth, "012345678".substring(0, girth));
        }
        goOn("n;p10;p10;p10;s9", "012345678");
        due("a room that the first has not", take(none(), "n;p98;p21"), 2);
        due("a room for the first alone", take(none(), "n;p98;p22"), -108);
        due("least", of("n;p90").ofDoll(0, 2), 0);
        due("most", of("n;p98").ofDoll(0, 2), 8);
    }

    private static void placeOfFirstFault() {
        says("part 1", "FIRST FAULT: the place (from 0 on) of the first code with which no TEXT goes on");
        for (int place = 0; place < FOUR.length(); place++) {
            String text = FOUR.substring(0, place) + "?" + FOUR.substring(place + 1);
            due(text, take(none(), text), -100 - place);
            due("the first of several in " + text, take(none(), text.substring(0, place) + "??x"), -100 - place);
        }
        NestedDolls x = none();
        write(x, 2, SHORTS, 'n', 'n', ';', 'p', '0', '0');
        due("from the first of its cells on", x.dolls(2, SHORTS, 1, 5), -103);
    }

    private static void fifthDoll() {
        says("part 1", "(the ; of a fifth DOLL)");
        due("; alone", take(none(), FOUR + ";"), -117);
        due("all of it", take(none(), FOUR + ";p10"), -117);
        due("another code", take(none(), FOUR + "p"), -117);
        due("four", take(none(), FOUR), 4);
    }

    private static void endsTooSoon() {
        says("part 1", "how many codes there are, if it just ends too soon");
        for (int n = 0; n <= FOUR.length(); n++) {
            boolean isWhole = n > 1 && n % 4 == 1;
            due(n + " codes", take(none(), FOUR.substring(0, n)), isWhole ? n / 4 : -100 - n);
        }
        NestedDolls x = of(FOUR);
        due("the sheet goes on, the text does not", x.dolls(0, BYTES, 0, 7), -107);
        due("wrong ahead of the end", take(x, "n;x"), -102);
        due("wrong at the end", take(x, "n;p2:"), -104);
    }

    private static void kindsByLetters() {
        says("part 1", "Kinds: 0 PLAIN (p); 1 BRUSHED (b), a PLAIN one; 2 SWOLLEN (s), a BRUSHED one.");
        NestedDolls x = of("n;p10;b10;s10");
        for (int d = 0; d < 3; d++) {
            due("kind of " + d, x.ofDoll(d, 0), d);
            for (int kind = 0; kind < 3; kind++) {
                due(d + " as " + kind, x.as(d, kind), kind <= d ? 1 : CAST);
            }
        }
    }

    private static void textMakesAllAnew() {
        says("part 1", "A TEXT that is taken makes all anew: all DOLLS are on the TABLE, SHUT, nothing was done, "
            + "no READINGS.");
        NestedDolls x = busy();
        due("the same text", x.dolls(0, BYTES, 0, 17), 4);
        int[] many = {4, 4, 0, 0, 0};
        for (int what = 0; what <= 4; what++) {
            due("many " + what, x.many(what), many[what]);
        }
        for (int d = 0; d < 4; d++) {
            due("where " + d + " is", x.ofDoll(d, 4), 0);
            due("whether " + d + " is open", x.ofDoll(d, 5), 0);
            due("girths of " + d, x.girths(d), 1022);
        }
        due("a reading's number", x.reading(0, 1, 1), 0);
        NestedDolls fewer = busy();
        due("a lesser text", take(fewer, "n;b30"), 1);
        due("a doll that is no more", fewer.ofDoll(1, 4), UNKNOWN);
        due("on the table", fewer.many(1), 1);
        due("open", fewer.many(2), 0);
        due("can", fewer.can(), 1);
        due("stands", fewer.stands(0), 2);
        due("the other sheets stay", rowOf(fewer, 1), "2: 5 28 -1 0");
    }

    private static void wide() {
        says("part 1", "WIDE: a PLAIN one GIRTH; a BRUSHED one 1 more; a SWOLLEN one twice what a PLAIN one is.");
        NestedDolls x = of("n;p10;b10;s10");
        for (int girth = 1; girth <= 9; girth++) {
            int[] wide = {girth, girth + 1, 2 * girth};
            for (int d = 0; d < 3; d++) {
                x.girth(d, girth);
                due("kind " + d + " of girth " + girth, x.ofDoll(d, 3), wide[d]);
            }
        }
    }

    private static void noWiderThanRoom() {
        says("part 1", "One FITS into another one, if it is no WIDER than that has ROOM.");
        int[][] widest = {{0, 1, 2, 3, 4, 5, 6, 7, 8}, {0, 0, 1, 2, 3, 4, 5, 6, 7}, {0, 0, 1, 1, 2, 2, 3, 3, 4}};
        for (int kind = 0; kind < 3; kind++) {
            NestedDolls x = of("n;" + "pbs".charAt(kind) + "10;p90");
            for (int room = 0; room <= 8; room++) {
                x.room(1, room);
                for (int girth = 1; girth <= 9; girth++) {
                    x.girth(0, girth);
                    due("kind " + kind + " of girth " + girth + " into " + room, x.fits(0, 1),
                        girth <= widest[kind][room] ? 1 : 0);
                }
            }
        }
        NestedDolls y = of("n;p20;s43;b43");
        due("its own kind does not widen its room", y.fits(0, 1), 1);
        due("into a brushed one", y.fits(0, 2), 1);
    }

    // ---- promise 2

    private static void dollsOfCells() {
        says("promise 2", "DOLLS by a TEXT of n cells of a SHEET from i on, taken as a row of a LANE: how many");
        for (int lane = BYTES; lane <= INTS; lane++) {
            NestedDolls x = none();
            write(x, 3, lane, (FOUR + FOUR).chars().toArray());
            due("the first cells", x.dolls(3, lane, 0, 17), 4);
            due("the last cells", x.dolls(3, lane, 17, 17), 4);
            due("some cells", x.dolls(3, lane, 17, 9), 2);
            x.sheet(2, lane, 60);
            x.copy(3, 0, 2, 43, 17);
            due("the last of sixty", x.dolls(2, lane, 43, 17), 4);
        }
        NestedDolls y = none();
        write(y, 0, BYTES, 'n' + 256, ';' - 256, 'p' + (1 << 20), '1', '0');
        due("codes that were cut to bytes", y.dolls(0, BYTES, 0, 5), 1);
    }

    private static void dollsAnswers() {
        says("promise 2", "-100 less the FIRST FAULT");
        refuses(BoundsOfTexts::withWrongText, -100, "dolls", 1, BYTES, 1, 4);
        refuses(BoundsOfTexts::withWrongText, -103, "dolls", 1, BYTES, 0, 3);
        refuses(BoundsOfTexts::withWrongText, -104, "dolls", 1, BYTES, 0, 5);
        refuses(BoundsOfTexts::withWrongText, -100, "dolls", 1, BYTES, 0, 0);
    }

    private static NestedDolls withWrongText() {
        NestedDolls x = busy();
        write(x, 1, BYTES, 'n', ';', 'p', '1', '1');
        return x;
    }

    private static void dollsRefusals() {
        says("promise 2", "UNKNOWN; OUTSIDE: lane");
        for (int k : new int[] {-1, 4, LOW, FAR}) {
            refuses(Sentences::busy, UNKNOWN, "dolls", k, BYTES, 0, 17);
            refuses(Sentences::busy, UNKNOWN, "dolls", k, 3, -1, -1);
        }
        for (int lane : new int[] {-1, 3, LOW, FAR}) {
            refuses(Sentences::busy, OUTSIDE, "dolls", 0, lane, 0, 17);
            refuses(Sentences::busy, OUTSIDE, "dolls", 3, lane, -1, -1);
        }
    }

    private static void dollsCast() {
        says("promise 2", "FAULTS CAST (nothing is no CAST)");
        refuses(Sentences::busy, CAST, "dolls", 0, SHORTS, 0, 17);
        refuses(Sentences::busy, CAST, "dolls", 0, INTS, -1, -1);
        refuses(Sentences::busy, CAST, "dolls", 1, BYTES, 0, 4);
        refuses(Sentences::busy, CAST, "dolls", 1, SHORTS, 0, 4);
        refuses(Sentences::busy, CAST, "dolls", 2, BYTES, 0, 0);
        refuses(Sentences::busy, CAST, "dolls", 2, INTS, 0, 0);
    }

    private static void dollsNull() {
        says("promise 2", "NULL");
        for (int lane = BYTES; lane <= INTS; lane++) {
            refuses(Sentences::busy, NULL, "dolls", 3, lane, 0, 0);
            refuses(Sentences::busy, NULL, "dolls", 3, lane, -1, -1);
        }
        NestedDolls x = of(FOUR);
        x.lose(0);
        due("a row that was lost", x.dolls(0, BYTES, 0, 17), NULL);
        due("no row is left of another lane", x.dolls(0, INTS, 0, 17), NULL);
    }

    private static void dollsSize() {
        says("promise 2", "SIZE: n is below 0");
        refuses(Sentences::busy, SIZE, "dolls", 0, BYTES, 0, -1);
        refuses(Sentences::busy, SIZE, "dolls", 0, BYTES, 0, LOW);
        refuses(Sentences::busy, SIZE, "dolls", 0, BYTES, -1, -1);
        refuses(Sentences::busy, SIZE, "dolls", 0, BYTES, 18, -1);
        refuses(Sentences::busy, SIZE, "dolls", 2, SHORTS, 0, -1);
    }

    private static void dollsIndex() {
        says("promise 2", "INDEX: not all cells are there");
        refuses(Sentences::busy, INDEX, "dolls", 0, BYTES, 0, 18);
        refuses(Sentences::busy, INDEX, "dolls", 0, BYTES, 1, 17);
        refuses(Sentences::busy, INDEX, "dolls", 0, BYTES, -1, 17);
        refuses(Sentences::busy, INDEX, "dolls", 0, BYTES, 17, 1);
        refuses(Sentences::busy, INDEX, "dolls", 0, BYTES, 18, 0);
        refuses(Sentences::busy, INDEX, "dolls", 0, BYTES, -1, 0);
        refuses(Sentences::busy, INDEX, "dolls", 2, SHORTS, 0, 1);
        refuses(Sentences::busy, INDEX, "dolls", 2, SHORTS, 1, 0);
        // i and n together wrap to less than there is
        refuses(Sentences::busy, INDEX, "dolls", 0, BYTES, FAR, FAR);
        refuses(Sentences::busy, INDEX, "dolls", 0, BYTES, 1, FAR);
        refuses(Sentences::busy, INDEX, "dolls", 0, BYTES, FAR, 1);
        refuses(Sentences::busy, INDEX, "dolls", 0, BYTES, LOW, FAR);
        refuses(Sentences::busy, -100, "dolls", 0, BYTES, 17, 0);
        refuses(Sentences::busy, -100, "dolls", 2, SHORTS, 0, 0);
    }

    // ---- promise 3

    private static void ofDollWhats() {
        says("promise 3", "0 kind, 1 GIRTH, 2 ROOM, 3 how WIDE it is, 4 where it is (0 on the TABLE, 1 and e in DOLL e), "
            + "5 whether it is OPEN (1, 0), 6 whether it is AT HAND (1, 0)");
        NestedDolls x = of("n;s98;b54;p30;p10", 0, 4 + 12 + 0);
        due("brushed into swollen", x.many(1), 3);
        int[][] due = {{2, 9, 8, 18, 0, 1, 1}, {1, 5, 4, 6, 1, 0, 1}, {0, 3, 0, 3, 0, 0, 1}, {0, 1, 0, 1, 0, 0, 1}};
        for (int d = 0; d < 4; d++) {
            for (int what = 0; what <= 6; what++) {
                due("doll " + d + " what " + what, x.ofDoll(d, what), due[d][what]);
            }
        }
        NestedDolls y = of("n;p20;p10;p10;p98", 3, 15, 7);
        due("in the last one", y.ofDoll(0, 4), 4);
        due("not at hand", y.ofDoll(0, 6), 0);
    }

    private static void ofDollInAndWithin() {
        says("promise 3", "7 the DOLL that is in it (NONE), 8 how many are within it (in it, in that, ..)");
        NestedDolls x = of("n;p98;p65;p43;p20");
        for (int d = 0; d < 4; d++) {
            due("none is in " + d, x.ofDoll(d, 7), NONE);
            due("none is within " + d, x.ofDoll(d, 8), 0);
        }
        act(x, 2, 12 + 4 * 3 + 2, 6, 1, 12 + 4 * 2 + 1, 5, 0, 12 + 4 * 1 + 0, 4);
        for (int d = 0; d < 3; d++) {
            due("in " + d, x.ofDoll(d, 7), d + 1);
            due("within " + d, x.ofDoll(d, 8), 3 - d);
        }
        due("in the innermost", x.ofDoll(3, 7), NONE);
        due("within the innermost", x.ofDoll(3, 8), 0);
    }

    private static void ofDollRefusals() {
        says("promise 3", "UNKNOWN; OUTSIDE.");
        for (int d : new int[] {-1, 4, LOW, FAR}) {
            refuses(Sentences::busy, UNKNOWN, "ofDoll", d, 0);
            refuses(Sentences::busy, UNKNOWN, "ofDoll", d, 9);
        }
        for (int what : new int[] {-1, 9, LOW, FAR}) {
            refuses(Sentences::busy, OUTSIDE, "ofDoll", 0, what);
            refuses(Sentences::none, UNKNOWN, "ofDoll", 0, what);
        }
        refuses(() -> of("n;p10;p10;p10"), UNKNOWN, "ofDoll", 3, 7);
    }

    // ---- promises 4 to 6

    private static void girthBounds() {
        says("promise 4", "GIRTH of a DOLL becomes v (1 .. 9, more than its ROOM; all stay where they are): what it was. "
            + "UNKNOWN; OUTSIDE.");
        for (int room = 0; room <= 8; room++) {
            NestedDolls x = of("n;p10;b9" + room);
            int was = 9;
            for (int v = -2; v <= 12; v++) {
                boolean isTaken = v > room && v <= 9;
                due("room " + room + ", girth " + v, x.girth(1, v), isTaken ? was : OUTSIDE);
                was = isTaken ? v : was;
                due("room " + room + ", girth behind " + v, x.ofDoll(1, 1), was);
            }
        }
        for (int v : new int[] {0, 10, -1, LOW, FAR, 3}) {
            refuses(Sentences::busy, OUTSIDE, "girth", 1, v);
            refuses(Sentences::none, UNKNOWN, "girth", 0, v);
            refuses(Sentences::busy, UNKNOWN, "girth", 4, v);
            refuses(Sentences::busy, UNKNOWN, "girth", -1, v);
        }
        refuses(Sentences::busy, UNKNOWN, "girth", FAR, 9);
        refuses(Sentences::busy, UNKNOWN, "girth", LOW, 9);
    }

    private static void girthStays() {
        says("promise 4", "all stay where they are");
        NestedDolls x = of("n;p20;p43", 1, 13, 0);
        due("wider than the room it is in", x.girth(0, 9), 2);
        due("it is in it still", x.ofDoll(0, 4), 2);
        due("it is open still", x.ofDoll(0, 5), 1);
        due("the other is open still", x.ofDoll(1, 5), 1);
        due("acts done", x.many(3), 3);
        due("it fits no more", x.fits(0, 1), 0);
        due("it is shut, and the other shut over it", act(x, 4, 5), 1);
        due("it is taken", act(x, 1, 8), 2);
        due("it can't be put again", x.act(13), STATE);
    }

    private static void roomBounds() {
        says("promise 5", "ROOM of a DOLL becomes v (0 .. 9, less than its GIRTH; all stay where they are): what it was. "
            + "UNKNOWN; OUTSIDE.");
        for (int girth = 1; girth <= 9; girth++) {
            NestedDolls x = of("n;p10;s" + girth + "0");
            int was = 0;
            for (int v = -2; v <= 12; v++) {
                boolean isTaken = v >= 0 && v < girth;
                due("girth " + girth + ", room " + v, x.room(1, v), isTaken ? was : OUTSIDE);
                was = isTaken ? v : was;
                due("girth " + girth + ", room behind " + v, x.ofDoll(1, 2), was);
            }
        }
        for (int v : new int[] {-1, 10, LOW, FAR, 4, 9}) {
            refuses(Sentences::busy, OUTSIDE, "room", 1, v);
            refuses(Sentences::none, UNKNOWN, "room", 0, v);
            refuses(Sentences::busy, UNKNOWN, "room", 4, v);
            refuses(Sentences::busy, UNKNOWN, "room", -1, v);
        }
        refuses(Sentences::busy, UNKNOWN, "room", FAR, 0);
        refuses(Sentences::busy, UNKNOWN, "room", LOW, 0);
    }

    private static void roomStays() {
        says("promise 5", "all stay where they are");
        NestedDolls x = of("n;p20;p43;p65", 1, 13, 5, 2, 12 + 4 + 2);
        due("no room is left", x.room(1, 0), 3);
        due("nor there", x.room(2, 0), 5);
        due("0 is in 1 still", x.ofDoll(0, 4), 2);
        due("1 is in 2 still", x.ofDoll(1, 4), 3);
        due("2 is open still", x.ofDoll(2, 5), 1);
        due("within 2", x.ofDoll(2, 8), 2);
        due("1 is taken, with 0", x.act(9), 2);
        due("1 can't be put again", x.act(18), STATE);
    }

    private static void fitsAnswers() {
        says("promise 6", "Whether one FITS into another one (1, 0).");
        NestedDolls x = of("n;p20;p43;b20;s21");
        int[][] due = {{UNKNOWN, 1, 0, 0}, {0, UNKNOWN, 0, 0}, {0, 1, UNKNOWN, 0}, {0, 0, 0, UNKNOWN}};
        for (int a = 0; a < 4; a++) {
            for (int b = 0; b < 4; b++) {
                due(a + " into " + b, x.fits(a, b), due[a][b]);
            }
        }
        due("in one that has one already", act(x, 1, 13), 3);
        due("one that fits beside", x.fits(2, 1), 1);
    }

    private static void fitsRefusals() {
        says("promise 6", "UNKNOWN: either, both the same.");
        for (int d : new int[] {-1, 4, LOW, FAR}) {
            refuses(Sentences::busy, UNKNOWN, "fits", d, 0);
            refuses(Sentences::busy, UNKNOWN, "fits", 0, d);
            refuses(Sentences::busy, UNKNOWN, "fits", d, d);
        }
        for (int d = 0; d < 4; d++) {
            refuses(Sentences::busy, UNKNOWN, "fits", d, d);
        }
        refuses(Sentences::none, UNKNOWN, "fits", 0, 1);
        refuses(() -> of("n;p10;p10"), UNKNOWN, "fits", 0, 2);
    }
}
