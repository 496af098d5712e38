/** Each promise of the document by hand-made cases: ordinary inputs, the edges that it names, wrong inputs. */
public final class NestedDollsPromises {
    private static final int BYTES = 0, SHORTS = 1, INTS = 2;
    private static final int NULL = -11, CAST = -12, INDEX = -13, SIZE = -14;
    private static final int FAR = Integer.MAX_VALUE, LOW = Integer.MIN_VALUE;
    private static int wrong = 0;
    private static int checked = 0;

    private static void due(int promise, String what, long got, long want) {
        checked++;
        if (got != want) {
            wrong++;
            System.out.println("promise " + promise + ": " + what + " answered " + got + ", due is " + want);
        }
    }

    private static void write(NestedDolls x, int sheet, int lane, int... cells) {
        x.sheet(sheet, lane, cells.length);
        for (int i = 0; i < cells.length; i++) {
            x.put(sheet, i, cells[i]);
        }
    }

    private static int take(NestedDolls x, String text) {
        int[] codes = text.chars().toArray();
        write(x, 0, BYTES, codes);
        return x.dolls(0, BYTES, 0, codes.length);
    }

    private static NestedDolls of(String text) {
        NestedDolls x = new NestedDolls();
        take(x, text);
        return x;
    }

    private static int act(NestedDolls x, int... acts) {
        int answer = 0;
        for (int a : acts) {
            answer = x.act(a);
        }
        return answer;
    }

    private static int day(NestedDolls x, int what, int... acts) {
        write(x, 1, INTS, acts);
        return x.day(1, INTS, 0, acts.length, what);
    }

    private static int fewest(NestedDolls x, int k, int... nest) {
        write(x, 1, INTS, nest);
        return x.fewest(1, INTS, 0, k);
    }

    public static void main(String[] args) {
        newObject();
        textsTaken();
        textsAtFault();
        textRefusals();
        ofDoll();
        girthAndRoom();
        fits();
        acts();
        actsThatCannotBe();
        anewAndCan();
        days();
        dayRefusals();
        fewest();
        fewestRefusals();
        stands();
        tidyAndChain();
        readings();
        girthsRoomsKinds();
        odds();
        sheets();
        putAndCell();
        copies();
        tellings();
        as();
        faults();
        many();
        System.out.println(checked + " answers looked at, " + wrong + " are not as due");
        if (wrong != 0) {
            System.exit(1);
        }
    }

    private static void newObject() {
        NestedDolls x = new NestedDolls();
        for (int what = 0; what <= 4; what++) {
            due(1, "many " + what, x.many(what), 0);
        }
        for (int k = 0; k < 4; k++) {
            due(1, "lose " + k, x.lose(k), 0);
        }
        due(1, "trace", x.trace(), 0);
        due(1, "fault", x.fault(), 0);
        due(1, "LOST", NestedDolls.LOST, Long.MIN_VALUE);
    }

    private static void textsTaken() {
        NestedDolls x = new NestedDolls();
        due(2, "one", take(x, "n;p10"), 1);
        due(2, "two", take(x, "n;b98;s21"), 2);
        due(2, "kind of 1", x.ofDoll(1, 0), 2);
        due(2, "three", take(x, "n;p10;p10;p10"), 3);
        due(2, "four", take(x, "n;p20;p43;p65;p98"), 4);
        x.act(1);
        x.act(13);
        x.reading(0, 1, 1);
        x.tell(0);
        due(2, "again", take(x, "n;p20;p43"), 2);
        due(2, "on the table", x.many(1), 2);
        due(2, "open", x.many(2), 0);
        due(2, "acts done", x.many(3), 0);
        due(2, "readings", x.many(4), 0);
        due(2, "trace stays", x.trace(), 1);
        due(2, "sheet stays", x.cell(0, 0, BYTES), 'n');
        write(x, 2, INTS, 7, 'n', ';', 's', '9', '8', 7);
        due(2, "from the middle", x.dolls(2, INTS, 1, 5), 1);
        due(2, "girth", x.ofDoll(0, 1), 9);
        due(2, "room", x.ofDoll(0, 2), 8);
        write(x, 2, SHORTS, 'n', ';', 'b', '3', '0');
        due(2, "as shorts", x.dolls(2, SHORTS, 0, 5), 1);
        due(2, "kind", x.ofDoll(0, 0), 1);
    }

    private static void textsAtFault() {
        String[] texts = {"", "x", "n", "n;", "nn", "n;x", "n;p", "n;p0", "n;px", "n;p2", "n;p22", "n;p23", "n;p2x",
            "n;p20;", "n;p20n", "n;p10;p11", "n;p20;p43;p65;p98;", "n;p20;p43;p65;p98x", "n;p20;p43;p65;p98;p10",
            "n;P20", "n;p20;q", "n;p:0", "n;p2/", "N;p20", " n;p20"};
        int[] places = {0, 0, 1, 2, 1, 2, 3, 3, 3, 4, 4, 4, 4,
            6, 5, 8, 17, 17, 17,
            2, 6, 3, 4, 0, 0};
        NestedDolls x = of("n;p20;p43");
        x.act(1);
        x.reading(0, 1, 0);
        for (int t = 0; t < texts.length; t++) {
            due(2, texts[t], take(x, texts[t]), -100 - places[t]);
            due(2, "no fault of " + texts[t], x.fault(), 0);
        }
        due(2, "dolls stay", x.many(0), 2);
        due(2, "open stays", x.many(2), 1);
        due(2, "acts stay", x.many(3), 1);
        due(2, "readings stay", x.many(4), 1);
        write(x, 1, INTS, 'n' + 256, ';');
        due(2, "a code beyond bytes", x.dolls(1, INTS, 0, 2), -100);
    }

    private static void textRefusals() {
        NestedDolls x = new NestedDolls();
        due(2, "nothing", x.dolls(0, BYTES, -1, -1), NULL);
        due(2, "its fault", x.fault(), 1);
        due(2, "no sheet ahead of lane", x.dolls(4, 3, 0, 0), -1);
        due(2, "its fault", x.fault(), 0);
        due(2, "no sheet", x.dolls(-1, 0, 0, 0), -1);
        due(2, "lane", x.dolls(0, 3, 0, 0), -2);
        due(2, "lane", x.dolls(0, -1, 0, 0), -2);
        take(x, "n;p20");
        due(2, "cast ahead of size", x.dolls(0, SHORTS, 0, -1), CAST);
        due(2, "its fault", x.fault(), 2);
        due(2, "size ahead of index", x.dolls(0, BYTES, 9, -1), SIZE);
        due(2, "its fault", x.fault(), 4);
        due(2, "beyond", x.dolls(0, BYTES, 0, 6), INDEX);
        due(2, "its fault", x.fault(), 3);
        due(2, "beyond by i", x.dolls(0, BYTES, 1, 5), INDEX);
        due(2, "below", x.dolls(0, BYTES, -1, 5), INDEX);
        due(2, "far", x.dolls(0, BYTES, FAR, FAR), INDEX);
        due(2, "far n", x.dolls(0, BYTES, 1, FAR), INDEX);
        due(2, "low", x.dolls(0, BYTES, LOW, 0), INDEX);
        due(2, "none of them, at the end", x.dolls(0, BYTES, 5, 0), -100);
        due(2, "none of them, beyond the end", x.dolls(0, BYTES, 6, 0), INDEX);
        due(2, "dolls stay", x.many(0), 1);
    }

    private static void ofDoll() {
        NestedDolls x = of("n;p20;p43;b54;s98");
        int[][] due = {{0, 2, 0, 2}, {0, 4, 3, 4}, {1, 5, 4, 6}, {2, 9, 8, 18}};
        for (int d = 0; d < 4; d++) {
            for (int what = 0; what < 4; what++) {
                due(3, "doll " + d + " what " + what, x.ofDoll(d, what), due[d][what]);
            }
        }
        act(x, 1, 13, 5, 2, 18, 6, 3);
        int[][] nested = {{2, 0, 0, -9, 0}, {3, 0, 0, 0, 1}, {0, 0, 1, 1, 2}, {0, 1, 1, -9, 0}};
        for (int d = 0; d < 4; d++) {
            for (int what = 4; what < 9; what++) {
                due(3, "nested doll " + d + " what " + what, x.ofDoll(d, what), nested[d][what - 4]);
            }
        }
        act(x, 2);
        due(3, "the middle is at hand", x.ofDoll(1, 6), 1);
        due(3, "the innermost is not", x.ofDoll(0, 6), 0);
        act(x, 1);
        due(3, "the innermost is at hand", x.ofDoll(0, 6), 1);
        due(3, "no doll", x.ofDoll(4, 0), -1);
        due(3, "no doll ahead of what", x.ofDoll(-1, 9), -1);
        due(3, "what", x.ofDoll(0, 9), -2);
        due(3, "what", x.ofDoll(0, -1), -2);
        due(3, "without dolls", new NestedDolls().ofDoll(0, 0), -1);
        due(3, "a doll that is not", of("n;p10").ofDoll(1, 0), -1);
    }

    private static void girthAndRoom() {
        NestedDolls x = of("n;p20;p43");
        due(4, "girth was", x.girth(1, 9), 4);
        due(4, "girth is", x.ofDoll(1, 1), 9);
        due(4, "not more than room", x.girth(1, 3), -2);
        due(4, "one more than room", x.girth(1, 4), 9);
        due(4, "0", x.girth(0, 0), -2);
        due(4, "1", x.girth(0, 1), 2);
        due(4, "10", x.girth(0, 10), -2);
        due(4, "no doll ahead of v", x.girth(2, 0), -1);
        due(4, "no doll", x.girth(-1, 1), -1);
        due(5, "room was", x.room(1, 0), 3);
        due(5, "room is", x.ofDoll(1, 2), 0);
        due(5, "as girth", x.room(1, 4), -2);
        due(5, "one less than girth", x.room(1, 3), 0);
        due(5, "below 0", x.room(1, -1), -2);
        due(5, "above 9", x.room(1, 10), -2);
        due(5, "no doll ahead of v", x.room(2, -1), -1);
        due(5, "no doll", x.room(-1, 0), -1);
        act(x, 1, 13);
        x.girth(0, 9);
        x.room(1, 0);
        due(4, "stays where it is", x.ofDoll(0, 4), 2);
        due(4, "fits no more", x.fits(0, 1), 0);
        due(4, "can be shut, opened, taken", x.can(), 1 << 0 | 1 << 5 | 1 << 8);
        act(x, 8);
        due(5, "can't be put back", x.act(13), -3);
    }

    private static void fits() {
        NestedDolls x = of("n;p30;p43;b20;s98");
        due(6, "just as wide as room", x.fits(0, 1), 1);
        due(6, "brushed, just", x.fits(2, 1), 1);
        due(6, "no room", x.fits(0, 2), 0);
        due(6, "swollen", x.fits(3, 1), 0);
        x.girth(2, 3);
        due(6, "brushed, one too wide", x.fits(2, 1), 0);
        x.room(3, 0);
        x.girth(3, 1);
        due(6, "swollen, just", x.fits(3, 1), 1);
        x.girth(3, 2);
        due(6, "swollen, too wide", x.fits(3, 1), 0);
        due(6, "the same", x.fits(1, 1), -1);
        due(6, "no first", x.fits(4, 1), -1);
        due(6, "no second", x.fits(1, 4), -1);
        due(6, "below", x.fits(-1, 0), -1);
    }

    private static void acts() {
        NestedDolls x = of("n;p20;p43;p54;p98");
        due(7, "open 1", x.act(1), 4);
        due(7, "put 0 into 1", x.act(13), 3);
        due(7, "open 0 within 1", x.act(0), 3);
        due(7, "shut 1 while 0 is open", x.act(5), -3);
        due(7, "shut 0", x.act(4), 3);
        due(7, "shut 1", x.act(5), 3);
        due(7, "open 2", x.act(2), 3);
        due(7, "put 1 into 2", x.act(18), 2);
        due(7, "open 1 in 2", x.act(1), 2);
        due(7, "open 0 in 1 in 2", x.act(0), 2);
        due(7, "take 1 that is open, with 0", x.act(9), 3);
        due(7, "1 is on the table", x.ofDoll(1, 4), 0);
        due(7, "1 is open", x.ofDoll(1, 5), 1);
        due(7, "0 is in 1", x.ofDoll(0, 4), 2);
        due(7, "take 0", x.act(8), 4);
        due(7, "0 is open still", x.ofDoll(0, 5), 1);
        due(7, "acts done", x.many(3), 11);
        due(7, "put 3 into none", x.act(26), -3);
        due(7, "put into the last", act(x, 4, 3, 15), 3);
        due(7, "one doll alone is opened", act(of("n;p10"), 0), 1);
        everyPut();
    }

    private static void everyPut() {
        for (int d = 0; d < 4; d++) {
            for (int e = 0; e < 4; e++) {
                NestedDolls x = of("n;p20;p20;p20;p20");
                x.girth(e, 9);
                x.room(e, 8);
                x.act(e);
                due(7, d + " into " + e, x.act(12 + 4 * d + e), d == e ? -3 : 3);
                due(7, d + " is in " + e, x.ofDoll(d, 4), d == e ? 0 : e + 1);
                due(7, "another one into " + e, x.act(12 + 4 * ((d + 1) % 4) + e), d == e ? 3 : -3);
                due(10, "most within", x.day(0, BYTES, 0, 0, 4), 1);
            }
        }
    }

    private static void actsThatCannotBe() {
        NestedDolls none = new NestedDolls();
        due(7, "below", none.act(-1), -2);
        due(7, "above", none.act(28), -2);
        due(7, "no dolls", none.act(27), -3);
        NestedDolls x = of("n;p20;p30;p98");
        due(7, "no such doll opened", x.act(3), -3);
        due(7, "no such doll shut", x.act(7), -3);
        due(7, "no such doll taken", x.act(11), -3);
        due(7, "no such doll put", x.act(24), -3);
        due(7, "put into no such doll", x.act(15), -3);
        due(7, "shut ones can't be shut", x.act(4), -3);
        due(7, "those on the table can't be taken", x.act(8), -3);
        due(7, "put into a shut one", x.act(14), -3);
        act(x, 2);
        due(7, "open ones can't be opened", x.act(2), -3);
        due(7, "put into itself", x.act(22), -3);
        act(x, 0);
        due(7, "an open one can't be put", x.act(14), -3);
        act(x, 4, 14);
        due(7, "a second one can't be put", x.act(18), -3);
        due(7, "one that is in it can't be put", x.act(14), -3);
        act(x, 6);
        due(7, "not at hand: opened", x.act(0), -3);
        due(7, "not at hand: taken", x.act(8), -3);
        due(7, "acts done", x.many(3), 5);
        NestedDolls y = of("n;p20;p43;p98");
        act(y, 2, 18, 1);
        due(7, "put into one at hand within another", y.act(13), 1);
        act(y, 5, 6);
        due(7, "not at hand by one in between", y.act(0), -3);
        act(y, 2);
        due(7, "still not", y.act(0), -3);
    }

    private static void anewAndCan() {
        due(8, "no dolls", new NestedDolls().anew(), -3);
        due(9, "no dolls", new NestedDolls().can(), -3);
        NestedDolls x = of("n;p20;p43;p54;p98");
        due(9, "all shut", x.can(), 15);
        act(x, 1);
        due(9, "1 open", x.can(), 1 | 4 | 8 | 1 << 5 | 1 << 13);
        act(x, 13);
        due(9, "0 in 1", x.can(), 1 | 4 | 8 | 1 << 5 | 1 << 8);
        act(x, 0);
        due(9, "0 open in 1", x.can(), 4 | 8 | 1 << 4 | 1 << 8);
        act(x, 4, 5);
        due(9, "shut", x.can(), 2 | 4 | 8);
        x.reading(0, 1, 1);
        act(x, 2, 18);
        due(8, "were not on it", x.anew(), 2);
        due(8, "on it", x.many(1), 4);
        due(8, "open", x.many(2), 0);
        due(8, "acts done stay", x.many(3), 7);
        due(8, "readings stay", x.many(4), 1);
        due(8, "again", x.anew(), 0);
        due(9, "all shut", x.can(), 15);
        due(9, "one doll", of("n;p10").can(), 1);
    }

    private static void days() {
        NestedDolls x = of("n;p20;p43;p54");
        int[] told = {1, 13, 5, 2, 18};
        int[] answers = {1, -9, 4, 6, 2};
        for (int what = 0; what <= 4; what++) {
            due(10, "what " + what, day(x, what, told), answers[what]);
        }
        due(10, "where 0 is", day(x, 10, told), 2);
        due(10, "where 1 is", day(x, 11, told), 3);
        due(10, "where 2 is", day(x, 12, told), 0);
        due(10, "where no doll is", day(x, 13, told), -9);
        due(10, "nothing is changed", x.many(1), 3);
        due(10, "nothing is opened", x.many(2), 0);
        due(10, "nothing was done", x.many(3), 0);
        act(x, 1);
        due(10, "from how all is now", day(x, 1, told), 0);
        due(10, "what 0 of a wrong one", day(x, 0, told), -100);
        due(10, "wrong later", day(x, 1, 13, 5, 2, 18, 18), 4);
        due(10, "no such doll", day(x, 1, 13, 3), 1);
        due(10, "no such doll, where it is", day(x, 13, 13, 3), -101);
        due(10, "an empty day", day(x, 2), 2);
        write(x, 2, BYTES, 99, 13, 5, 99);
        due(10, "from the middle, as bytes", x.day(2, BYTES, 1, 2, 0), 2);
        due(10, "twenty", day(of("n;p10"), 1, 0, 4, 0, 4, 0, 4, 0, 4, 0, 4, 0, 4, 0, 4, 0, 4, 0, 4, 0, 4), -9);
        due(10, "at hand within", day(x, 3, 13, 5), 6);
        due(10, "most within none", day(x, 4), 0);
    }

    private static void dayRefusals() {
        NestedDolls x = new NestedDolls();
        due(10, "sheet ahead of lane", x.day(4, 3, 0, 0, 0), -1);
        due(10, "sheet", x.day(-1, 0, 0, 0, 0), -1);
        due(10, "lane", x.day(0, 3, 0, 0, 0), -2);
        due(10, "n", x.day(0, 0, 0, -1, 0), -2);
        due(10, "n", x.day(0, 0, 0, 21, 0), -2);
        due(10, "what", x.day(0, 0, 0, 0, -1), -2);
        due(10, "what", x.day(0, 0, 0, 0, 5), -2);
        due(10, "what", x.day(0, 0, 0, 0, 9), -2);
        due(10, "what", x.day(0, 0, 0, 0, 14), -2);
        due(10, "nothing ahead of no dolls", x.day(0, 0, 9, 0, 0), NULL);
        x.sheet(1, SHORTS, 2);
        due(10, "cast", x.day(1, BYTES, 9, 0, 0), CAST);
        due(10, "index ahead of no dolls", x.day(1, SHORTS, 0, 3, 0), INDEX);
        due(10, "its fault", x.fault(), 3);
        x.put(1, 0, 28);
        due(10, "no dolls ahead of a cell", x.day(1, SHORTS, 0, 1, 0), -3);
        due(10, "its fault", x.fault(), 0);
        take(x, "n;p10");
        due(10, "a cell above", x.day(1, SHORTS, 0, 1, 0), -2);
        x.put(1, 0, 27);
        due(10, "the last act can't be", x.day(1, SHORTS, 0, 1, 1), 0);
        x.put(1, 0, 4);
        x.put(1, 1, -1);
        due(10, "a cell below behind a wrong one", x.day(1, SHORTS, 0, 2, 1), -2);
        due(10, "the wrong one alone", x.day(1, SHORTS, 0, 1, 1), 0);
        due(10, "none at the end", x.day(1, SHORTS, 2, 0, 0), 1);
        due(10, "none beyond the end", x.day(1, SHORTS, 3, 0, 0), INDEX);
        due(10, "below", x.day(1, SHORTS, -1, 1, 0), INDEX);
        due(10, "far", x.day(1, SHORTS, FAR, 20, 0), INDEX);
    }

    private static void fewest() {
        NestedDolls x = of("n;p20;p43;p54;p98");
        due(11, "so already", fewest(x, -1, 0, 0, 0, 0), 0);
        due(11, "no act", fewest(x, 0, 0, 0, 0, 0), -9);
        int[] due = {1, 2, 13, 5, 18, 6};
        due(11, "0 in 1 in 2", fewest(x, -1, 2, 3, 0, 0), due.length);
        for (int k = 0; k < due.length; k++) {
            due(11, "act " + k, fewest(x, k, 2, 3, 0, 0), due[k]);
        }
        due(11, "no more", fewest(x, 6, 2, 3, 0, 0), -9);
        due(11, "the last place", fewest(x, 59, 2, 3, 0, 0), -9);
        due(11, "in itself", fewest(x, -1, 1, 0, 0, 0), -9);
        due(11, "in one another", fewest(x, -1, 2, 1, 0, 0), -9);
        due(11, "two in one", fewest(x, -1, 4, 4, 0, 0), -9);
        due(11, "too wide", fewest(x, 0, 0, 1, 0, 0), -9);
        act(x, 2, 14, 6);
        int[] undo = {1, 2, 8, 13, 5, 18, 6};
        due(11, "from a nest", fewest(x, -1, 2, 3, 0, 0), undo.length);
        for (int k = 0; k < undo.length; k++) {
            due(11, "act " + k + " from a nest", fewest(x, k, 2, 3, 0, 0), undo[k]);
        }
        x.room(1, 0);
        due(11, "what no more fits", fewest(x, -1, 2, 0, 0, 0), -9);
        x.room(1, 3);
        due(11, "what fits again", fewest(x, -1, 2, 0, 0, 0), 6);
        x.girth(0, 4);
        x.girth(0, 9);
        due(11, "one that fits no more stays in", fewest(x, -1, 3, 0, 0, 0), 0);
        due(11, "and is taken out", fewest(x, 1, 0, 0, 0, 0), 6 + 2);
        due(11, "nothing is changed", x.ofDoll(0, 4), 3);
        write(x, 2, BYTES, 9, 3, 0, 0, 0, 9);
        due(11, "from the middle", x.fewest(2, BYTES, 1, -1), 0);
        due(11, "one doll", fewest(of("n;p10"), -1, 0), 0);
    }

    private static void fewestRefusals() {
        NestedDolls x = new NestedDolls();
        x.put(0, 0, 0);
        due(11, "no dolls ahead of sheet", x.fewest(4, 3, 0, -2), -3);
        due(11, "its fault", x.fault(), 0);
        take(x, "n;p20;p43");
        due(11, "sheet ahead of lane", x.fewest(4, 3, 0, -2), -1);
        due(11, "lane", x.fewest(1, 3, 0, 0), -2);
        due(11, "k", x.fewest(1, 0, 0, -2), -2);
        due(11, "k", x.fewest(1, 0, 0, 60), -2);
        due(11, "nothing", x.fewest(1, 0, 9, 0), NULL);
        x.sheet(1, INTS, 3);
        due(11, "cast", x.fewest(1, SHORTS, 9, 0), CAST);
        due(11, "index", x.fewest(1, INTS, 2, 0), INDEX);
        due(11, "below", x.fewest(1, INTS, -1, 0), INDEX);
        due(11, "far", x.fewest(1, INTS, FAR, 0), INDEX);
        due(11, "just", x.fewest(1, INTS, 1, -1), 0);
        x.put(1, 1, 3);
        due(11, "a cell above", x.fewest(1, INTS, 0, 0), -2);
        x.put(1, 1, -1);
        due(11, "a cell below", x.fewest(1, INTS, 0, 0), -2);
        x.put(1, 1, 0);
        x.put(1, 2, 99);
        due(11, "a cell that is not taken", x.fewest(1, INTS, 0, -1), 0);
    }

    private static void stands() {
        due(12, "what ahead of no dolls", new NestedDolls().stands(4), -2);
        due(12, "what", new NestedDolls().stands(-1), -2);
        due(12, "no dolls", new NestedDolls().stands(3), -3);
        NestedDolls one = of("n;p10");
        int[] ofOne = {2, 1, 2, 2};
        NestedDolls two = of("n;p10;p21");
        // apart: each open or not; one in the other: both shut, the outer open, both open
        int[] ofTwo = {7, 2, 3, 6};
        for (int what = 0; what < 4; what++) {
            due(12, "one, what " + what, one.stands(what), ofOne[what]);
            due(12, "two, what " + what, two.stands(what), ofTwo[what]);
        }
        two.room(1, 0);
        due(12, "two that do not fit", two.stands(0), 4);
        two.room(1, 1);
        act(two, 1, 13);
        two.room(1, 0);
        due(12, "from how all is now", two.stands(0), 7);
        act(two, 8);
        due(12, "taken out for ever", two.stands(0), 4);
        take(one, "n;p10;p10");
        due(12, "one more on the same object", one.stands(0), 4);
        // over all ways to part four into chains, the product of each chain's length and 1
        for (String text : new String[] {"n;p10;p32;p54;p98", "n;p98;p54;p32;p10", "n;p54;p10;p32;p98"}) {
            due(12, text, of(text).stands(0), 152);
        }
    }

    private static void tidyAndChain() {
        due(13, "k ahead of no dolls", new NestedDolls().tidy(-2), -2);
        due(13, "k", new NestedDolls().tidy(4), -2);
        due(13, "no dolls", new NestedDolls().tidy(-1), -3);
        due(14, "no dolls", new NestedDolls().chain(), -3);
        tidy("n;p10", 1, 0, -9, -9, -9);
        tidy("n;p20;p43", 1, 2, 0, -9, -9);
        tidy("n;p20;p43;p65;p98", 1, 2, 3, 4, 0);
        tidy("n;p98;p65;p43;p20", 1, 0, 1, 2, 3);
        tidy("n;p10;p10;p32;p32", 2, 3, 4, 0, 0);
        tidy("n;p10;p10;p32", 2, 0, 3, 0, -9);
        tidy("n;s98;s98;s98;s98", 4, 0, 0, 0, 0);
        tidy("n;p20;b54;p65;s98", 2, 2, 0, 4, 0);
        due(14, "one", of("n;p10").chain(), 1);
        due(14, "four", of("n;p98;p20;p65;p43").chain(), 4);
        due(14, "two of four", of("n;p10;p10;p32;p32").chain(), 2);
        due(14, "none fits", of("n;s98;s98;s98").chain(), 1);
        NestedDolls x = of("n;p20;p43;p98");
        due(14, "three", x.chain(), 3);
        x.room(2, 3);
        due(14, "by another room", x.chain(), 2);
        due(13, "by another room", x.tidy(-1), 2);
        act(x, 1, 13);
        due(13, "however all is now", x.tidy(0), 2);
    }

    private static void tidy(String text, int... due) {
        NestedDolls x = of(text);
        for (int k = -1; k < 4; k++) {
            due(13, text + " k " + k, x.tidy(k), due[k + 1]);
        }
    }

    private static void readings() {
        NestedDolls x = of("n;p20;p43");
        due(15, "no first ahead of fits", x.reading(2, 0, 2), -1);
        due(15, "no second", x.reading(0, 2, 0), -1);
        due(15, "below", x.reading(-1, 0, 0), -1);
        due(15, "the same", x.reading(1, 1, 0), -1);
        due(15, "fits", x.reading(0, 1, -1), -2);
        due(15, "fits", x.reading(0, 1, 2), -2);
        for (int r = 0; r < 8; r++) {
            due(15, "reading " + r, x.reading(0, 1, 1), r);
        }
        due(15, "full", x.reading(0, 1, 1), -4);
        due(15, "fits ahead of full", x.reading(0, 1, 2), -2);
        due(15, "how many", x.many(4), 8);
        due(16, "below", x.back(-1), -2);
        due(16, "above", x.back(9), -2);
        due(16, "none", x.back(0), 8);
        due(16, "three", x.back(3), 5);
        due(16, "how many", x.many(4), 5);
        due(15, "the next number", x.reading(1, 0, 0), 5);
        due(16, "all", x.back(6), 0);
        due(16, "none is left", x.back(1), -2);
        due(16, "far", x.back(FAR), -2);
        due(16, "without dolls", new NestedDolls().back(0), 0);
    }

    private static void girthsRoomsKinds() {
        NestedDolls x = of("n;p20;b54;s98");
        for (int d = 0; d < 3; d++) {
            due(17, "all girths", x.girths(d), 1022);
            due(18, "all rooms", x.rooms(d), 1023);
            due(19, "all kinds", x.kinds(d), 7);
        }
        due(17, "no doll", x.girths(3), -1);
        due(17, "no doll", x.girths(-1), -1);
        due(18, "no doll", x.rooms(3), -1);
        due(18, "no doll", x.rooms(-1), -1);
        due(19, "no doll", x.kinds(3), -1);
        due(19, "no doll", x.kinds(-1), -1);
        x.reading(1, 2, 1);
        due(17, "brushed into 8", x.girths(1), 254);
        due(18, "room for 6", x.rooms(2), 1023 & ~63);
        due(18, "whatever its girth", of("n;p20").rooms(0), 1023);
        due(19, "kinds of 5 into 8", x.kinds(1), 3);
        due(17, "whatever its own girth", x.girths(2), 1022);
        x.reading(1, 0, 0);
        due(18, "no room for 6", x.rooms(0), 63);
        due(17, "both readings", x.girths(1), 254);
        x.reading(2, 1, 1);
        due(17, "a reading of others that is not so", x.girths(0), 0);
        due(18, "room for 18", x.rooms(1), 0);
        due(19, "kinds of 9 into 4", x.kinds(2), 0);
        due(17, "swollen into 4", x.girths(2), 6);
        x.back(1);
        due(17, "taken back", x.girths(0), 1022);
        due(17, "girth stays", x.ofDoll(1, 1), 5);
        due(18, "room stays", x.ofDoll(2, 2), 8);
        due(19, "kind stays", x.ofDoll(2, 0), 2);
        x.room(2, 7);
        due(17, "by another room", x.girths(1), 126);
    }

    private static void odds() {
        due(20, "no dolls", new NestedDolls().odds(0), Long.MIN_VALUE);
        due(20, "one doll", of("n;p10").odds(0), Long.MIN_VALUE);
        odds("n;p20;p43", 1, 2);
        odds("n;p10;p10", 0, 1);
        odds("n;p20;p43;p65", 1, 2);
        odds("n;p20;p43;s98", 1, 2);
        odds("n;p10;p32;p32", 1, 3);
        odds("n;p20;b54;p65;s98", 5, 12);
        odds("n;p10;p10;p32;p32", 1, 3);
        due(20, "which", of("n;p20;p43").odds(2), Long.MIN_VALUE);
        due(20, "which", of("n;p20;p43").odds(-1), Long.MIN_VALUE);
    }

    private static void odds(String text, int upper, int lower) {
        due(20, text + " upper", of(text).odds(0), upper);
        due(20, text + " lower", of(text).odds(1), lower);
    }

    private static void sheets() {
        NestedDolls x = new NestedDolls();
        due(21, "no sheet ahead of lane", x.sheet(4, 3, 61), -1);
        due(21, "no sheet", x.sheet(-1, 0, 1), -1);
        due(21, "lane ahead of size", x.sheet(0, 3, -1), -2);
        due(21, "lane", x.sheet(0, -1, 1), -2);
        due(21, "n", x.sheet(0, 0, 61), -2);
        due(21, "size", x.sheet(0, 0, -1), SIZE);
        due(21, "its fault", x.fault(), 4);
        due(21, "low", x.sheet(0, 0, LOW), SIZE);
        due(21, "nothing still", x.lose(0), 0);
        due(21, "sixty", x.sheet(0, 2, 60), 1);
        due(21, "its fault", x.fault(), 0);
        due(21, "the last is there", x.put(0, 59, 5), 1);
        due(21, "a new row", x.sheet(0, 2, 60), 1);
        due(21, "0 at first", x.cell(0, 59, 2), 0);
        due(21, "an empty row", x.sheet(3, 1, 0), 1);
        due(21, "has no cell", x.put(3, 0, 1), INDEX);
        due(21, "refused", x.sheet(0, 0, 61), -2);
        due(21, "changes nothing", x.put(0, 59, 1), 1);
        due(22, "no sheet", x.lose(4), -1);
        due(22, "no sheet", x.lose(-1), -1);
        due(22, "a row", x.lose(0), 1);
        due(22, "no row", x.lose(0), 0);
        due(22, "nothing", x.put(0, 0, 0), NULL);
        due(22, "an empty row, too", x.lose(3), 1);
        x.put(0, 0, 0);
        x.lose(0);
        due(22, "fault stays", x.fault(), 1);
    }

    private static void putAndCell() {
        NestedDolls x = new NestedDolls();
        due(23, "no sheet", x.put(4, 0, 0), -1);
        due(23, "no sheet", x.put(-1, 0, 0), -1);
        due(23, "nothing ahead of index", x.put(0, -1, 0), NULL);
        int[] values = {0, 1, -1, 127, 128, -128, -129, 255, 256, 32767, 32768, -32769, 65536, FAR, LOW};
        for (int v : values) {
            write(x, 0, BYTES, v);
            write(x, 1, SHORTS, v);
            write(x, 2, INTS, v);
            due(23, "byte of " + v, x.cell(0, 0, BYTES), (byte) v);
            due(23, "short of " + v, x.cell(1, 0, SHORTS), (short) v);
            due(23, "int of " + v, x.cell(2, 0, INTS), v);
        }
        due(23, "it", x.put(0, 0, 9), 1);
        due(23, "beyond", x.put(0, 1, 9), INDEX);
        due(23, "its fault", x.fault(), 3);
        due(23, "below", x.put(0, -1, 9), INDEX);
        due(23, "far", x.put(0, FAR, 9), INDEX);
        long lost = Long.MIN_VALUE;
        cell(x, "no sheet", x.cell(4, 0, 0), lost, 0);
        cell(x, "no sheet", x.cell(-1, 0, 0), lost, 0);
        cell(x, "lane", x.cell(0, 0, 3), lost, 0);
        cell(x, "lane", x.cell(0, 0, -1), lost, 0);
        cell(x, "cast ahead of index", x.cell(0, 9, SHORTS), lost, 2);
        cell(x, "cast of a shorter one", x.cell(2, 0, BYTES), lost, 2);
        cell(x, "nothing", x.cell(3, 9, SHORTS), lost, 1);
        cell(x, "beyond", x.cell(0, 1, BYTES), lost, 3);
        cell(x, "below", x.cell(0, -1, BYTES), lost, 3);
        cell(x, "low", x.cell(0, LOW, BYTES), lost, 3);
        cell(x, "it", x.cell(0, 0, BYTES), 9, 0);
    }

    private static void cell(NestedDolls x, String what, long got, long want, int fault) {
        due(24, what, got, want);
        due(24, "fault of " + what, x.fault(), fault);
    }

    private static void copies() {
        NestedDolls x = new NestedDolls();
        due(25, "no first", x.copy(4, 0, 0, 0, 0), -1);
        due(25, "no other", x.copy(0, 0, 4, 0, 0), -1);
        due(25, "no other ahead of nothing", x.copy(0, 0, -1, 0, 0), -1);
        due(25, "nothing", x.copy(0, 0, 1, 0, 0), NULL);
        write(x, 0, BYTES, 1, 2, 3, 4, 5);
        due(25, "nothing in the other", x.copy(0, 9, 1, 0, 0), NULL);
        due(25, "nothing in the first", x.copy(1, 9, 0, 0, 0), NULL);
        write(x, 1, SHORTS, 7, 8, 9);
        due(25, "cast ahead of index", x.copy(0, 9, 1, 0, 0), CAST);
        due(25, "its fault", x.fault(), 2);
        write(x, 2, BYTES, 7, 8, 9);
        due(25, "two", x.copy(0, 1, 2, 1, 2), 2);
        row(x, 2, 7, 2, 3);
        row(x, 0, 1, 2, 3, 4, 5);
        due(25, "onwards within one", x.copy(0, 0, 0, 1, 4), 4);
        row(x, 0, 1, 1, 2, 3, 4);
        due(25, "backwards within one", x.copy(0, 2, 0, 0, 3), 3);
        row(x, 0, 2, 3, 4, 3, 4);
        due(25, "none, at the ends", x.copy(0, 5, 2, 3, 0), 0);
        due(25, "none, i beyond", x.copy(0, 6, 2, 3, 0), INDEX);
        due(25, "none, j beyond", x.copy(0, 5, 2, 4, 0), INDEX);
        due(25, "i below", x.copy(0, -1, 2, 0, 1), INDEX);
        due(25, "j below", x.copy(0, 0, 2, -1, 1), INDEX);
        due(25, "n below", x.copy(0, 0, 2, 0, -1), INDEX);
        due(25, "its fault", x.fault(), 3);
        due(25, "beyond the other", x.copy(0, 0, 2, 0, 4), INDEX);
        due(25, "beyond the first", x.copy(2, 0, 0, 0, 4), INDEX);
        due(25, "far", x.copy(0, 1, 2, 1, FAR), INDEX);
        row(x, 2, 7, 2, 3);
        due(25, "to another is no tie", x.put(0, 1, 99), 1);
        row(x, 2, 7, 2, 3);
    }

    private static void row(NestedDolls x, int sheet, int... cells) {
        for (int i = 0; i < cells.length; i++) {
            due(25, "cell " + i + " of " + sheet, x.cell(sheet, i, BYTES), cells[i]);
        }
    }

    private static void tellings() {
        NestedDolls x = of("n;p31;b54;s98");
        due(26, "plain", x.tell(0), 3);
        due(29, "trace", x.trace(), 1);
        due(26, "brushed", x.tell(1), 105);
        due(29, "trace", x.trace(), (1 * 31 + 2) * 31 + 1);
        due(26, "swollen", x.tell(2), 118);
        int trace = traced(0, 1, 2, 1, 3, 2, 1, 1);
        due(29, "trace", x.trace(), trace);
        due(26, "no doll", x.tell(3), -1);
        due(26, "no doll", x.tell(-1), -1);
        due(27, "no doll", x.shake(3), -1);
        due(27, "no doll", x.shake(-1), -1);
        due(29, "trace stays", x.trace(), trace);
        due(27, "plain", x.shake(0), 1);
        due(27, "brushed", x.shake(1), 4);
        trace = traced(trace, 4, 4);
        due(29, "trace", x.trace(), trace);
        due(27, "swollen", x.shake(2), 40);
        trace = traced(trace, 5);
        due(29, "trace", x.trace(), trace);
        x.girth(0, 7);
        due(26, "by another girth", x.tell(0), 7);
        x.room(0, 6);
        due(27, "by another room", x.shake(0), 6);
        due(29, "trace wraps", x.trace(), traced(trace, 1, 4));
    }

    private static int traced(int from, int... numbers) {
        long trace = from;
        for (int number : numbers) {
            trace = (int) (trace * 31 + number);
        }
        return (int) trace;
    }

    private static void as() {
        NestedDolls x = of("n;p31;b54;s98");
        for (int d = 0; d < 3; d++) {
            for (int kind = 0; kind < 3; kind++) {
                due(28, d + " as " + kind, x.as(d, kind), kind <= d ? 1 : CAST);
                due(28, "fault of " + d + " as " + kind, x.fault(), kind <= d ? 0 : 2);
            }
        }
        due(28, "no doll ahead of kind", x.as(3, 3), -1);
        due(28, "no doll", x.as(-1, 0), -1);
        due(28, "kind", x.as(0, 3), -2);
        due(28, "kind", x.as(0, -1), -2);
    }

    private static void faults() {
        NestedDolls x = of("n;p31;p43");
        int[] clearing = {0, 1, 2, 3, 4, 5, 6, 7};
        for (int call : clearing) {
            x.put(3, 0, 0);
            due(30, "a fault", x.fault(), 1);
            refusedCall(x, call);
            due(30, "refused call " + call, x.fault(), 0);
        }
        x.put(3, 0, 0);
        callThatNamesNone(x);
        due(30, "calls that name none", x.fault(), 1);
        due(30, "fault() itself", x.fault(), 1);
        x.put(0, 0, 0);
        due(30, "came to none", x.fault(), 0);
    }

    private static void refusedCall(NestedDolls x, int call) {
        switch (call) {
            case 0 -> x.dolls(4, 0, 0, 0);
            case 1 -> x.day(4, 0, 0, 0, 0);
            case 2 -> x.fewest(4, 0, 0, 0);
            case 3 -> x.sheet(4, 0, 0);
            case 4 -> x.put(4, 0, 0);
            case 5 -> x.cell(4, 0, 0);
            case 6 -> x.copy(4, 0, 0, 0, 0);
            default -> x.as(4, 0);
        }
    }

    private static void callThatNamesNone(NestedDolls x) {
        x.ofDoll(0, 0);
        x.girth(0, 3);
        x.room(0, 1);
        x.fits(0, 1);
        x.act(0);
        x.anew();
        x.can();
        x.stands(0);
        x.tidy(0);
        x.chain();
        x.reading(0, 1, 0);
        x.back(1);
        x.girths(0);
        x.rooms(0);
        x.kinds(0);
        x.odds(0);
        x.lose(2);
        x.tell(0);
        x.shake(0);
        x.trace();
        x.many(0);
    }

    private static void many() {
        NestedDolls x = of("n;p20;p43;p54");
        act(x, 1, 2, 13, 99, 13);
        x.reading(0, 1, 0);
        int[] due = {3, 2, 2, 3, 1};
        for (int what = 0; what <= 4; what++) {
            due(31, "what " + what, x.many(what), due[what]);
        }
        due(31, "what", x.many(5), -2);
        due(31, "what", x.many(-1), -2);
    }
}
