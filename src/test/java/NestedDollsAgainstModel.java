import java.util.ArrayList;
import java.util.Arrays;
import java.util.HashMap;
import java.util.List;
import java.util.Map;
import java.util.Random;

/**
 * Made-up runs of calls, each answer compared with a second model that is slow and plain and written otherwise:
 * real classes for the kinds, real rows and the machine's own exceptions for the sheets, whole rows of acts for
 * the search, all nests one by one for what is tidy.
 */
public final class NestedDollsAgainstModel {
    private static final int RUNS = 400, CALLS = 512;
    private static final String[] NAMES = {"dolls", "ofDoll", "girth", "room", "fits", "act", "anew", "can", "day",
        "fewest", "stands", "tidy", "chain", "reading", "back", "girths", "rooms", "kinds", "odds", "sheet", "lose",
        "put", "cell", "copy", "tell", "shake", "as", "trace", "fault", "many"};
    private static final int[] PARAMETERS = {4, 2, 2, 2, 2, 1, 0, 0, 5, 4, 1, 1, 0, 3, 1, 1, 1, 1, 1, 3, 1, 3, 3, 5,
        1, 1, 2, 0, 0, 1};
    private static int wrong = 0;

    public static void main(String[] args) {
        int[] answered = new int[NAMES.length];
        for (int run = 0; run < RUNS && wrong < 20; run++) {
            new Run(run, answered).go();
        }
        for (int call = 0; call < NAMES.length; call++) {
            if (answered[call] == 0 && wrong == 0) {
                wrong++;
                System.out.println(NAMES[call] + " was never answered but by a refusal");
            }
        }
        System.out.println(RUNS * CALLS + " calls, " + wrong + " answers are not as due");
        if (wrong != 0) {
            System.exit(1);
        }
    }

    /** One run of calls on a new object and a new model. */
    private static final class Run {
        private final int number;
        private final int[] answered;
        private final Random random;
        private final NestedDolls x = new NestedDolls();
        private final Model model = new Model();
        private final List<String> told = new ArrayList<>();

        Run(int number, int[] answered) {
            this.number = number;
            this.answered = answered;
            this.random = new Random(number * 7919L + 17);
        }

        void go() {
            while (told.size() < CALLS && wrong < 20) {
                int dice = random.nextInt(100);
                if (told.isEmpty() && number % 8 != 0 || dice < 2) {
                    tellText();
                } else if (dice < 6) {
                    tellRow(1, 20, 28);
                } else if (dice < 9) {
                    tellRow(2, 4, 1 + model.dolls.size());
                } else if (dice < 40) {
                    actThatCanBe();
                } else {
                    any(random.nextInt(NAMES.length));
                }
            }
        }

        private void tellText() {
            StringBuilder text = new StringBuilder("n");
            int many = 1 + random.nextInt(4);
            for (int d = 0; d < many; d++) {
                int girth = 1 + random.nextInt(9);
                int room = random.nextInt(3) == 0 ? random.nextInt(girth) : girth - 1;
                text.append(';').append("ppbs".charAt(random.nextInt(4))).append(girth).append(room);
            }
            if (random.nextInt(4) == 0) {
                text.setCharAt(random.nextInt(text.length()), "n;pbs09a".charAt(random.nextInt(8)));
            }
            if (random.nextInt(6) == 0) {
                text.append(";p10".substring(random.nextInt(4)));
            }
            if (random.nextInt(6) == 0) {
                text.setLength(random.nextInt(text.length() + 1));
            }
            int lane = random.nextInt(3);
            int sheet = random.nextInt(4);
            int ahead = random.nextInt(3) == 0 ? random.nextInt(3) : 0;
            call(19, sheet, lane, ahead + text.length());
            for (int i = 0; i < text.length(); i++) {
                call(21, sheet, ahead + i, text.charAt(i));
            }
            call(0, sheet, lane, ahead, text.length());
        }

        private void tellRow(int sheet, int most, int below) {
            int size = random.nextInt(most + 1);
            call(19, sheet, 2, size);
            List<Doll> then = model.copied();
            for (int i = 0; i < size; i++) {
                int v = random.nextInt(below);
                for (int tries = 0; below == 28 && tries < 40 && !model.can(then, v); tries++) {
                    v = random.nextInt(below);
                }
                if (below == 28 && model.can(then, v)) {
                    model.done(then, v);
                }
                call(21, sheet, i, random.nextInt(60) == 0 ? odd() : v);
            }
            for (int k = 0; k < 4; k++) {
                if (below == 28) {
                    call(8, sheet, 2, 0, Math.max(0, size - random.nextInt(2)), new int[] {0, 1, 2, 3, 4, 10, 11, 12, 13}[random.nextInt(9)]);
                } else {
                    call(9, sheet, 2, Math.max(0, size - model.dolls.size()), random.nextInt(12) - 1);
                }
            }
        }

        private void actThatCanBe() {
            int act = random.nextInt(28);
            for (int tries = 0; tries < 60 && !model.can(model.dolls, act); tries++) {
                act = random.nextInt(28);
            }
            call(5, act);
        }

        private void any(int which) {
            int[] p = new int[PARAMETERS[which]];
            for (int k = 0; k < p.length; k++) {
                int dice = random.nextInt(20);
                p[k] = dice == 0 ? odd() : dice < 5 ? random.nextInt(24) - 2 : random.nextInt(4);
            }
            call(which, p);
        }

        private int odd() {
            int[] odd = {Integer.MAX_VALUE, Integer.MIN_VALUE, -1, 60, 61, 128, -129, 40000, 28, 5};
            return odd[random.nextInt(odd.length)];
        }

        private void call(int which, int... p) {
            if (told.size() >= CALLS) {
                return;
            }
            long got = ofClass(which, p);
            long want = model.call(which, p);
            String line = NAMES[which] + Arrays.toString(p) + " answered " + got;
            told.add(line);
            if (want >= 0) {
                answered[which]++;
            }
            if (got != want) {
                wrong++;
                System.out.println("run " + number + ", call " + told.size() + ": " + line + ", due is " + want);
            }
        }

        private long ofClass(int which, int[] p) {
            return switch (which) {
                case 0 -> x.dolls(p[0], p[1], p[2], p[3]);
                case 1 -> x.ofDoll(p[0], p[1]);
                case 2 -> x.girth(p[0], p[1]);
                case 3 -> x.room(p[0], p[1]);
                case 4 -> x.fits(p[0], p[1]);
                case 5 -> x.act(p[0]);
                case 6 -> x.anew();
                case 7 -> x.can();
                case 8 -> x.day(p[0], p[1], p[2], p[3], p[4]);
                case 9 -> x.fewest(p[0], p[1], p[2], p[3]);
                case 10 -> x.stands(p[0]);
                case 11 -> x.tidy(p[0]);
                case 12 -> x.chain();
                case 13 -> x.reading(p[0], p[1], p[2]);
                case 14 -> x.back(p[0]);
                case 15 -> x.girths(p[0]);
                case 16 -> x.rooms(p[0]);
                case 17 -> x.kinds(p[0]);
                case 18 -> x.odds(p[0]);
                case 19 -> x.sheet(p[0], p[1], p[2]);
                case 20 -> x.lose(p[0]);
                case 21 -> x.put(p[0], p[1], p[2]);
                case 22 -> x.cell(p[0], p[1], p[2]);
                case 23 -> x.copy(p[0], p[1], p[2], p[3], p[4]);
                case 24 -> x.tell(p[0]);
                case 25 -> x.shake(p[0]);
                case 26 -> x.as(p[0], p[1]);
                case 27 -> x.trace();
                case 28 -> x.fault();
                default -> x.many(p[0]);
            };
        }
    }

    private static final class Trace {
        int value;

        void leave(int number) {
            value = value * 31 + number;
        }
    }

    private interface Shaken {
        int roomOf();

        default int shaken(Trace trace) {
            trace.leave(4);
            return roomOf();
        }
    }

    /** A plain doll; where and whether it is open go along with it. */
    private static class Doll implements Shaken {
        int girth, room, in = -1;
        boolean open;

        int wide() {
            return girth;
        }

        @Override public int roomOf() {
            return room;
        }

        int told(Trace trace) {
            return toldPlain(trace);
        }

        final int toldPlain(Trace trace) {
            trace.leave(1);
            return girth;
        }

        static Doll of(int kind, int girth, int room) {
            Doll doll = kind == 0 ? new Doll() : kind == 1 ? new Brushed() : new Swollen();
            doll.girth = girth;
            doll.room = room;
            return doll;
        }

        int kind() {
            return this instanceof Swollen ? 2 : this instanceof Brushed ? 1 : 0;
        }

        Doll again(int kind) {
            Doll doll = of(kind, girth, room);
            doll.in = in;
            doll.open = open;
            return doll;
        }
    }

    private static class Brushed extends Doll {
        @Override int wide() {
            return super.wide() + 1;
        }

        @Override int told(Trace trace) {
            trace.leave(2);
            return super.told(trace) + 100;
        }
    }

    private static final class Swollen extends Brushed {
        @Override int wide() {
            return 2 * girth;
        }

        @Override int told(Trace trace) {
            trace.leave(3);
            return super.told(trace) + toldPlain(trace);
        }

        @Override public int shaken(Trace trace) {
            trace.leave(5);
            return 40;
        }
    }

    /** What the document says, as slowly as one likes. */
    private static final class Model {
        private static final int UNKNOWN = -1, OUTSIDE = -2, STATE = -3, FULL = -4, NONE = -9;
        private static final long LOST = Long.MIN_VALUE;
        List<Doll> dolls = new ArrayList<>();
        private final Object[] sheets = new Object[4];
        private final List<int[]> readings = new ArrayList<>();
        private final Trace trace = new Trace();
        private int acts, fault;

        long call(int which, int[] p) {
            return which < 13 ? firstHalf(which, p) : which < 19 ? ofReadings(which, p) : secondHalf(which, p);
        }

        private long firstHalf(int which, int[] p) {
            return switch (which) {
                case 0 -> faulty(() -> takeText(p[0], p[1], p[2], p[3]));
                case 1 -> ofDoll(p[0], p[1]);
                case 2 -> girth(p[0], p[1]);
                case 3 -> room(p[0], p[1]);
                case 4 -> unlike(p[0], p[1]) ? bit(fits(dolls, p[0], p[1])) : UNKNOWN;
                case 5 -> act(p[0]);
                case 6 -> anew();
                case 7 -> dolls.isEmpty() ? STATE : canSet();
                case 8 -> faulty(() -> day(p[0], p[1], p[2], p[3], p[4]));
                case 9 -> faulty(() -> fewest(p[0], p[1], p[2], p[3]));
                case 10 -> stands(p[0]);
                case 11 -> tidy(p[0]);
                default -> dolls.isEmpty() ? STATE : chain(new ArrayList<>());
            };
        }

        private long ofReadings(int which, int[] p) {
            return switch (which) {
                case 13 -> reading(p[0], p[1], p[2]);
                case 14 -> back(p[0]);
                case 15 -> known(p[0]) ? girths(p[0]) : UNKNOWN;
                case 16 -> known(p[0]) ? rooms(p[0]) : UNKNOWN;
                case 17 -> known(p[0]) ? kinds(p[0]) : UNKNOWN;
                default -> odds(p[0]);
            };
        }

        private long secondHalf(int which, int[] p) {
            return switch (which) {
                case 19 -> faulty(() -> sheet(p[0], p[1], p[2]));
                case 20 -> lose(p[0]);
                case 21 -> faulty(() -> put(p[0], p[1], p[2]));
                case 22 -> {
                    long answer = faulty(() -> cell(p[0], p[1], p[2]));
                    yield fault != 0 ? LOST : answer;
                }
                case 23 -> faulty(() -> copy(p[0], p[1], p[2], p[3], p[4]));
                case 24 -> known(p[0]) ? dolls.get(p[0]).told(trace) : UNKNOWN;
                case 25 -> known(p[0]) ? dolls.get(p[0]).shaken(trace) : UNKNOWN;
                case 26 -> faulty(() -> as(p[0], p[1]));
                case 27 -> trace.value;
                case 28 -> fault;
                default -> many(p[0]);
            };
        }

        private interface Call {
            long answer();
        }

        private long faulty(Call call) {
            fault = 0;
            try {
                return call.answer();
            } catch (NullPointerException e) {
                fault = 1;
            } catch (ClassCastException e) {
                fault = 2;
            } catch (IndexOutOfBoundsException e) {
                fault = 3;
            } catch (NegativeArraySizeException e) {
                fault = 4;
            } catch (ArrayStoreException e) {
                fault = 2;
            }
            return -10 - fault;
        }

        private static int bit(boolean so) {
            return so ? 1 : 0;
        }

        private boolean known(int d) {
            return d >= 0 && d < dolls.size();
        }

        private boolean unlike(int a, int b) {
            return known(a) && known(b) && a != b;
        }

        private static boolean fits(List<Doll> in, int a, int b) {
            return in.get(a).wide() <= in.get(b).room;
        }

        /** The cells, got by the machine's own means, so that its own exceptions tell the faults. */
        private int[] cells(int sheet, int lane, int i, int n) {
            Object row = sheets[sheet];
            int[] cells;
            if (lane == 0) {
                byte[] bytes = (byte[]) row;
                byte[] some = new byte[nonNull(bytes, n)];
                System.arraycopy(bytes, i, some, 0, n);
                cells = new int[n];
                for (int k = 0; k < n; k++) {
                    cells[k] = some[k];
                }
            } else if (lane == 1) {
                short[] shorts = (short[]) row;
                short[] some = new short[nonNull(shorts, n)];
                System.arraycopy(shorts, i, some, 0, n);
                cells = new int[n];
                for (int k = 0; k < n; k++) {
                    cells[k] = some[k];
                }
            } else {
                int[] ints = (int[]) row;
                cells = new int[nonNull(ints, n)];
                System.arraycopy(ints, i, cells, 0, n);
            }
            return cells;
        }

        // a length that no machine has memory for is answered as INDEX, as the document has SIZE below 0 alone
        private static int nonNull(Object row, int n) {
            row.hashCode();
            if (n > 1000) {
                throw new IndexOutOfBoundsException();
            }
            return n;
        }

        private long takeText(int sheet, int lane, int i, int n) {
            if (sheet < 0 || sheet > 3) {
                return UNKNOWN;
            }
            if (lane < 0 || lane > 2) {
                return OUTSIDE;
            }
            int[] codes = cells(sheet, lane, i, n);
            List<Doll> taken = new ArrayList<>();
            int at = 0;
            if (at == n || codes[at] != 'n') {
                return -100 - at;
            }
            at++;
            do {
                if (at == n || codes[at] != ';' || taken.size() == 4) {
                    return -100 - at;
                }
                at++;
                if (at == n || codes[at] != 'p' && codes[at] != 'b' && codes[at] != 's') {
                    return -100 - at;
                }
                int kind = codes[at] == 'p' ? 0 : codes[at] == 'b' ? 1 : 2;
                at++;
                if (at == n || codes[at] < 49 || codes[at] > 57) {
                    return -100 - at;
                }
                int girth = codes[at] - 48;
                at++;
                if (at == n || codes[at] < 48 || codes[at] > 57 || codes[at] - 48 >= girth) {
                    return -100 - at;
                }
                taken.add(Doll.of(kind, girth, codes[at] - 48));
                at++;
            } while (at < n);
            dolls = taken;
            acts = 0;
            readings.clear();
            return taken.size();
        }

        private static boolean hand(List<Doll> in, int d) {
            int outer = in.get(d).in;
            return outer < 0 || in.get(outer).open && hand(in, outer);
        }

        private static int inner(List<Doll> in, int e) {
            for (int d = 0; d < in.size(); d++) {
                if (in.get(d).in == e) {
                    return d;
                }
            }
            return NONE;
        }

        private static int within(List<Doll> in, int e) {
            int d = inner(in, e);
            return d == NONE ? 0 : 1 + within(in, d);
        }

        private static int onTable(List<Doll> in) {
            return (int) in.stream().filter(d -> d.in < 0).count();
        }

        private long ofDoll(int d, int what) {
            if (!known(d)) {
                return UNKNOWN;
            }
            Doll doll = dolls.get(d);
            return switch (what) {
                case 0 -> doll.kind();
                case 1 -> doll.girth;
                case 2 -> doll.room;
                case 3 -> doll.wide();
                case 4 -> doll.in + 1;
                case 5 -> bit(doll.open);
                case 6 -> bit(hand(dolls, d));
                case 7 -> inner(dolls, d);
                case 8 -> within(dolls, d);
                default -> OUTSIDE;
            };
        }

        private long girth(int d, int v) {
            if (!known(d)) {
                return UNKNOWN;
            }
            Doll doll = dolls.get(d);
            if (!(1 <= v && v <= 9 && v > doll.room)) {
                return OUTSIDE;
            }
            int was = doll.girth;
            doll.girth = v;
            return was;
        }

        private long room(int d, int v) {
            if (!known(d)) {
                return UNKNOWN;
            }
            Doll doll = dolls.get(d);
            if (!(0 <= v && v <= 9 && v < doll.girth)) {
                return OUTSIDE;
            }
            int was = doll.room;
            doll.room = v;
            return was;
        }

        boolean can(List<Doll> in, int act) {
            int d = act < 12 ? act % 4 : (act - 12) / 4;
            if (d >= in.size()) {
                return false;
            }
            Doll doll = in.get(d);
            if (act < 4) {
                return hand(in, d) && !doll.open;
            }
            if (act < 8) {
                return hand(in, d) && doll.open && (inner(in, d) == NONE || !in.get(inner(in, d)).open);
            }
            if (act < 12) {
                return hand(in, d) && doll.in >= 0;
            }
            int e = (act - 12) % 4;
            return e < in.size() && d != e && doll.in < 0 && !doll.open && fits(in, d, e)
                && hand(in, e) && in.get(e).open && inner(in, e) == NONE;
        }

        void done(List<Doll> in, int act) {
            if (act < 4) {
                in.get(act).open = true;
            } else if (act < 8) {
                in.get(act - 4).open = false;
            } else if (act < 12) {
                in.get(act - 8).in = -1;
            } else {
                in.get((act - 12) / 4).in = (act - 12) % 4;
            }
        }

        List<Doll> copied() {
            List<Doll> copy = new ArrayList<>();
            for (Doll doll : dolls) {
                copy.add(doll.again(doll.kind()));
            }
            return copy;
        }

        private long act(int act) {
            if (act < 0 || act > 27) {
                return OUTSIDE;
            }
            if (dolls.isEmpty() || !can(dolls, act)) {
                return STATE;
            }
            done(dolls, act);
            acts++;
            return onTable(dolls);
        }

        private long anew() {
            if (dolls.isEmpty()) {
                return STATE;
            }
            int were = dolls.size() - onTable(dolls);
            for (Doll doll : dolls) {
                doll.in = -1;
                doll.open = false;
            }
            return were;
        }

        private long canSet() {
            long set = 0;
            for (int act = 0; act < 28; act++) {
                set += can(dolls, act) ? 1L << act : 0;
            }
            return set;
        }

        private long day(int sheet, int lane, int i, int n, int what) {
            if (sheet < 0 || sheet > 3) {
                return UNKNOWN;
            }
            if (lane < 0 || lane > 2 || n < 0 || n > 20 || what < 0 || what > 13 || what > 4 && what < 10) {
                return OUTSIDE;
            }
            int[] told = cells(sheet, lane, i, n);
            if (dolls.isEmpty()) {
                return STATE;
            }
            if (Arrays.stream(told).anyMatch(v -> v < 0 || v > 27)) {
                return OUTSIDE;
            }
            List<Doll> then = copied();
            for (int k = 0; k < n; k++) {
                if (!can(then, told[k])) {
                    return what == 1 ? k : -100 - k;
                }
                done(then, told[k]);
            }
            if (what >= 10) {
                return what - 10 < then.size() ? then.get(what - 10).in + 1 : NONE;
            }
            int open = 0;
            int hand = 0;
            int most = 0;
            for (int d = 0; d < then.size(); d++) {
                open += then.get(d).open ? 1 << d : 0;
                hand += hand(then, d) ? 1 << d : 0;
                most = Math.max(most, within(then, d));
            }
            return new int[] {onTable(then), NONE, open, hand, most}[what];
        }

        private String named(List<Doll> in) {
            StringBuilder name = new StringBuilder();
            for (Doll doll : in) {
                name.append(doll.in + 1).append(doll.open ? 'o' : 's');
            }
            return name.toString();
        }

        /** Each stand's first row of acts: of all rows of a length, in their order, those to new stands are kept. */
        private Map<String, List<Integer>> search() {
            Map<String, List<Integer>> rows = new HashMap<>();
            List<List<Integer>> last = new ArrayList<>();
            rows.put(named(dolls), List.of());
            last.add(List.of());
            while (!last.isEmpty()) {
                Map<String, List<Integer>> next = new HashMap<>();
                for (List<Integer> row : last) {
                    List<Doll> then = copied();
                    row.forEach(act -> done(then, act));
                    for (int act = 27; act >= 0; act--) {
                        if (can(then, act)) {
                            List<Integer> longer = new ArrayList<>(row);
                            longer.add(act);
                            List<Doll> behind = copied();
                            longer.forEach(one -> done(behind, one));
                            next.merge(named(behind), longer, Model::lesser);
                        }
                    }
                }
                last = new ArrayList<>();
                for (Map.Entry<String, List<Integer>> entry : next.entrySet()) {
                    if (rows.putIfAbsent(entry.getKey(), entry.getValue()) == null) {
                        last.add(entry.getValue());
                    }
                }
            }
            return rows;
        }

        private static List<Integer> lesser(List<Integer> a, List<Integer> b) {
            for (int k = 0; k < a.size(); k++) {
                if (!a.get(k).equals(b.get(k))) {
                    return a.get(k) < b.get(k) ? a : b;
                }
            }
            return a;
        }

        private long fewest(int sheet, int lane, int i, int k) {
            if (dolls.isEmpty()) {
                return STATE;
            }
            if (sheet < 0 || sheet > 3) {
                return UNKNOWN;
            }
            if (lane < 0 || lane > 2 || k < -1 || k > 59) {
                return OUTSIDE;
            }
            int[] nest = cells(sheet, lane, i, dolls.size());
            if (Arrays.stream(nest).anyMatch(v -> v < 0 || v > dolls.size())) {
                return OUTSIDE;
            }
            StringBuilder name = new StringBuilder();
            for (int place : nest) {
                name.append(place).append('s');
            }
            List<Integer> row = search().get(name.toString());
            if (row == null) {
                return NONE;
            }
            return k == -1 ? row.size() : k < row.size() ? row.get(k) : NONE;
        }

        private long stands(int what) {
            if (what < 0 || what > 3) {
                return OUTSIDE;
            }
            if (dolls.isEmpty()) {
                return STATE;
            }
            return search().values().stream().filter(row -> isOf(what, row)).count();
        }

        private boolean isOf(int what, List<Integer> row) {
            List<Doll> then = copied();
            row.forEach(act -> done(then, act));
            return switch (what) {
                case 1 -> then.stream().noneMatch(d -> d.open);
                case 2 -> onTable(then) == 1;
                case 3 -> then.stream().allMatch(d -> hand(then, then.indexOf(d)));
                default -> true;
            };
        }

        private long tidy(int k) {
            if (k < -1 || k > 3) {
                return OUTSIDE;
            }
            if (dolls.isEmpty()) {
                return STATE;
            }
            int n = dolls.size();
            int[] first = null;
            for (int code = 0; code < Math.pow(n + 1, n); code++) {
                int[] nest = new int[n];
                for (int d = n - 1, rest = code; d >= 0; d--, rest /= n + 1) {
                    nest[d] = rest % (n + 1);
                }
                if (isNest(nest) && (first == null || zeros(nest) < zeros(first))) {
                    first = nest;
                }
            }
            return k == -1 ? zeros(first) : k < n ? first[k] : NONE;
        }

        private boolean isNest(int[] nest) {
            for (int d = 0; d < nest.length; d++) {
                if (nest[d] != 0 && (nest[d] == d + 1 || !fits(dolls, d, nest[d] - 1))) {
                    return false;
                }
                for (int e = 0; e < d; e++) {
                    if (nest[d] != 0 && nest[d] == nest[e]) {
                        return false;
                    }
                }
            }
            return true;
        }

        private static long zeros(int[] nest) {
            return Arrays.stream(nest).filter(v -> v == 0).count();
        }

        private long chain(List<Integer> begun) {
            long most = begun.size();
            for (int d = 0; d < dolls.size(); d++) {
                if (!begun.contains(d) && (begun.isEmpty() || fits(dolls, begun.get(begun.size() - 1), d))) {
                    List<Integer> longer = new ArrayList<>(begun);
                    longer.add(d);
                    most = Math.max(most, chain(longer));
                }
            }
            return most;
        }

        private long reading(int a, int b, int fits) {
            if (!unlike(a, b)) {
                return UNKNOWN;
            }
            if (fits < 0 || fits > 1) {
                return OUTSIDE;
            }
            if (readings.size() == 8) {
                return FULL;
            }
            readings.add(new int[] {a, b, fits});
            return readings.size() - 1;
        }

        private long back(int n) {
            if (n < 0 || n > readings.size()) {
                return OUTSIDE;
            }
            for (int k = 0; k < n; k++) {
                readings.remove(readings.size() - 1);
            }
            return readings.size();
        }

        private boolean so(int d, Doll other) {
            List<Doll> in = new ArrayList<>(dolls);
            in.set(d, other);
            return readings.stream().allMatch(r -> bit(fits(in, r[0], r[1])) == r[2]);
        }

        private long girths(int d) {
            Doll doll = dolls.get(d);
            long set = 0;
            for (int v = 1; v <= 9; v++) {
                set += (long) bit(so(d, Doll.of(doll.kind(), v, doll.room))) << v;
            }
            return set;
        }

        private long rooms(int d) {
            Doll doll = dolls.get(d);
            long set = 0;
            for (int v = 0; v <= 9; v++) {
                set += (long) bit(so(d, Doll.of(doll.kind(), doll.girth, v))) << v;
            }
            return set;
        }

        private long kinds(int d) {
            long set = 0;
            for (int v = 0; v <= 2; v++) {
                set += (long) bit(so(d, dolls.get(d).again(v))) << v;
            }
            return set;
        }

        private long odds(int which) {
            if (which < 0 || which > 1 || dolls.size() < 2) {
                return LOST;
            }
            int fit = 0;
            int all = 0;
            for (int a = 0; a < dolls.size(); a++) {
                for (int b = 0; b < dolls.size(); b++) {
                    if (a != b) {
                        all++;
                        fit += bit(fits(dolls, a, b));
                    }
                }
            }
            int by = java.math.BigInteger.valueOf(fit).gcd(java.math.BigInteger.valueOf(all)).intValue();
            return which == 0 ? fit / by : all / by;
        }

        private long sheet(int k, int lane, int n) {
            if (k < 0 || k > 3) {
                return UNKNOWN;
            }
            if (lane < 0 || lane > 2 || n > 60) {
                return OUTSIDE;
            }
            sheets[k] = lane == 0 ? new byte[n] : lane == 1 ? new short[n] : new int[n];
            return 1;
        }

        private long lose(int k) {
            if (k < 0 || k > 3) {
                return UNKNOWN;
            }
            int had = bit(sheets[k] != null);
            sheets[k] = null;
            return had;
        }

        private long put(int k, int i, int v) {
            if (k < 0 || k > 3) {
                return UNKNOWN;
            }
            if (sheets[k] instanceof byte[] bytes) {
                bytes[i] = (byte) v;
            } else if (sheets[k] instanceof short[] shorts) {
                shorts[i] = (short) v;
            } else {
                ((int[]) sheets[k])[i] = v;
            }
            return 1;
        }

        private long cell(int k, int i, int lane) {
            if (k < 0 || k > 3 || lane < 0 || lane > 2) {
                return LOST;
            }
            return switch (lane) {
                case 0 -> ((byte[]) sheets[k])[i];
                case 1 -> ((short[]) sheets[k])[i];
                default -> ((int[]) sheets[k])[i];
            };
        }

        private long copy(int k, int i, int other, int j, int n) {
            if (k < 0 || k > 3 || other < 0 || other > 3) {
                return UNKNOWN;
            }
            System.arraycopy(sheets[k], i, sheets[other], j, n);
            return n;
        }

        private long as(int d, int kind) {
            if (!known(d)) {
                return UNKNOWN;
            }
            if (kind < 0 || kind > 2) {
                return OUTSIDE;
            }
            Doll doll = dolls.get(d);
            if (kind == 1) {
                doll = (Brushed) doll;
            } else if (kind == 2) {
                doll = (Swollen) doll;
            }
            return doll == null ? 0 : 1;
        }

        private long many(int what) {
            return switch (what) {
                case 0 -> dolls.size();
                case 1 -> onTable(dolls);
                case 2 -> dolls.stream().filter(d -> d.open).count();
                case 3 -> acts;
                case 4 -> readings.size();
                default -> OUTSIDE;
            };
        }
    }
}
