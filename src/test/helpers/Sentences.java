import java.util.Arrays;
import java.util.Set;
import java.util.function.Supplier;

/**
 * What the tests of single sentences share: a sentence of the document is begun with its words, and the answers that
 * follow are held against it. A test is a class below this one, as the nameless package lends nothing by import.
 */
abstract class Sentences {
    static final int UNKNOWN = -1, OUTSIDE = -2, STATE = -3, FULL = -4, NONE = -9;
    static final int NULL = -11, CAST = -12, INDEX = -13, SIZE = -14;
    static final long LOST = Long.MIN_VALUE;
    static final int BYTES = 0, SHORTS = 1, INTS = 2;
    static final int FAR = Integer.MAX_VALUE, LOW = Integer.MIN_VALUE;
    private static final Set<String> NAMING_FAULTS = Set.of("dolls", "day", "fewest", "sheet", "put", "cell", "copy", "as");
    private static final int FAULT_OF_SIZE = 4;

    private static String sentence = "ahead of any sentence";
    private static int sentences, answers, answersOfThis, wrong;

    static void says(String where, String words) {
        endSentence();
        sentence = where + ", '" + words + "'";
        sentences++;
        answersOfThis = 0;
    }

    // A sentence without an answer would seem to hold whatever the class does.
    private static void endSentence() {
        if (sentences > 0 && answersOfThis == 0) {
            wrong++;
            System.out.println(sentence + ": no answer was looked at");
        }
    }

    static void due(String what, Object got, Object want) {
        answers++;
        answersOfThis++;
        if (!got.equals(want)) {
            wrong++;
            System.out.println(sentence + ": " + what + " answered " + got + ", due is " + want);
        }
    }

    static void due(String what, long got, long want) {
        due(what, (Object) got, (Object) want);
    }

    static void end() {
        endSentence();
        System.out.println(sentences + " sentences, " + answers + " answers looked at, " + wrong + " are not as due");
        if (wrong != 0) {
            System.exit(1);
        }
    }

    static long call(NestedDolls x, String name, int... p) {
        Class<?>[] types = new Class<?>[p.length];
        Arrays.fill(types, int.class);
        try {
            Object answer = NestedDolls.class.getMethod(name, types).invoke(x, Arrays.stream(p).boxed().toArray());
            return ((Number) answer).longValue();
        } catch (ReflectiveOperationException e) {
            throw new IllegalStateException(told(name, p), e);
        }
    }

    private static String told(String name, int... p) {
        return name + Arrays.toString(p);
    }

    /** A call that is refused or comes to a FAULT: its answer, what fault() tells then, and that nothing is changed. */
    static void refuses(Supplier<NestedDolls> made, long answer, String name, int... p) {
        boolean isFault = answer <= NULL && answer >= SIZE;
        refuses(made, answer, isFault ? (int) (-10 - answer) : 0, name, p);
    }

    /** The same of a call that answers a long, where LOST does not tell the FAULT. */
    static void loses(Supplier<NestedDolls> made, int fault, String name, int... p) {
        refuses(made, LOST, fault, name, p);
    }

    private static void refuses(Supplier<NestedDolls> made, long answer, int fault, String name, int... p) {
        NestedDolls x = made.get();
        // Another fault goes ahead, so that one that is due can't be left over, and one that stays is seen to stay.
        x.sheet(0, BYTES, fault == FAULT_OF_SIZE ? FAR : -1);
        int faultAhead = x.fault();
        due(told(name, p), call(x, name, p), answer);
        due("fault() behind " + told(name, p), x.fault(), NAMING_FAULTS.contains(name) ? fault : faultAhead);
        due("what is seen behind " + told(name, p), seen(x), seen(made.get()));
    }

    /** All that can be seen of an object, but for fault(). */
    static String seen(NestedDolls x) {
        StringBuilder all = new StringBuilder("many");
        for (int what = 0; what <= 4; what++) {
            all.append(' ').append(x.many(what));
        }
        all.append(" trace ").append(x.trace()).append(" can ").append(x.can()).append(" stands ").append(x.stands(0));
        for (int d = 0; d < x.many(0); d++) {
            all.append(" doll");
            for (int what = 0; what <= 8; what++) {
                all.append(' ').append(x.ofDoll(d, what));
            }
            all.append(" read ").append(x.girths(d)).append(' ').append(x.rooms(d)).append(' ').append(x.kinds(d));
        }
        for (int k = 0; k < 4; k++) {
            all.append(" sheet ").append(rowOf(x, k));
        }
        return all.toString();
    }

    /** What a SHEET has: nothing, or its LANE and its cells. */
    static String rowOf(NestedDolls x, int k) {
        for (int lane = BYTES; lane <= INTS; lane++) {
            long first = x.cell(k, 0, lane);
            if (x.fault() == 1) {
                return "nothing";
            }
            if (x.fault() != 2) {
                StringBuilder row = new StringBuilder().append(lane).append(':');
                for (int i = 0; i <= 60 && first != LOST; i++) {
                    row.append(' ').append(first);
                    first = x.cell(k, i + 1, lane);
                }
                return row.toString();
            }
        }
        return "a row of no lane";
    }

    static void write(NestedDolls x, int sheet, int lane, int... cells) {
        x.sheet(sheet, lane, cells.length);
        for (int i = 0; i < cells.length; i++) {
            x.put(sheet, i, cells[i]);
        }
    }

    static int take(NestedDolls x, String text) {
        write(x, 0, BYTES, text.chars().toArray());
        return x.dolls(0, BYTES, 0, text.length());
    }

    static NestedDolls none() {
        return new NestedDolls();
    }

    static NestedDolls of(String text, int... acts) {
        NestedDolls x = new NestedDolls();
        take(x, text);
        act(x, acts);
        return x;
    }

    static int act(NestedDolls x, int... acts) {
        int answer = 0;
        for (int act : acts) {
            answer = x.act(act);
        }
        return answer;
    }

    /** An object in which something of everything is: 0 is in 1, that is SHUT in 2, that is OPEN; SHEET 3 has nothing. */
    static NestedDolls busy() {
        NestedDolls x = of("n;p20;p43;p54;p98", 1, 13, 5, 2, 18);
        x.reading(0, 1, 1);
        x.reading(3, 0, 0);
        x.tell(0);
        write(x, 1, INTS, 5, 28, -1, 0);
        x.sheet(2, SHORTS, 0);
        return x;
    }

    static int day(NestedDolls x, int what, int... acts) {
        write(x, 1, INTS, acts);
        return x.day(1, INTS, 0, acts.length, what);
    }

    static int fewest(NestedDolls x, int k, int... nest) {
        write(x, 1, INTS, nest);
        return x.fewest(1, INTS, 0, k);
    }

    /** The row of ACTS that fewest tells, or that there is none. */
    static String rowTo(NestedDolls x, int... nest) {
        int many = fewest(x, -1, nest);
        if (many == NONE) {
            return "none";
        }
        StringBuilder row = new StringBuilder();
        for (int k = 0; k < many; k++) {
            row.append(x.fewest(1, INTS, 0, k)).append(' ');
        }
        return row.toString().trim();
    }

    static int bits(int... numbers) {
        int set = 0;
        for (int number : numbers) {
            set |= 1 << number;
        }
        return set;
    }
}
