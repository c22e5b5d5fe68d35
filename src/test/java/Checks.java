/** What the tests share: telling a wrong answer, and making objects to test. */
abstract class Checks {
    static final int NONE = -1;
    static final long LEAST = Long.MIN_VALUE;
    static final long GREATEST = Long.MAX_VALUE;

    private static int wrong = 0;
    private static String test = "";

    static void begin(String newTest) {
        test = newTest;
    }

    static int wrongAnswers() {
        return wrong;
    }

    static void fault(String what) {
        wrong++;
        System.out.println(test + ": " + what);
    }

    static void due(String call, long got, long want) {
        if (got != want) {
            fault(call + " answered " + got + ", due is " + want);
        }
    }

    static void due(String call, boolean got, boolean want) {
        if (got != want) {
            fault(call + " answered " + got + ", due is " + want);
        }
    }

    static void dueSame(String after, String got, String want) {
        if (!got.equals(want)) {
            fault("after " + after + " all questions answer\n    " + got + "\n  due is\n    " + want);
        }
    }

    static SpanRows withNames(int names) {
        SpanRows s = new SpanRows();
        for (int i = 0; i < names; i++) {
            s.name();
        }
        return s;
    }

    static SpanRows withSpans(int names, long low, long high) {
        SpanRows s = withNames(names);
        for (int x = 0; x < names; x++) {
            s.span(x, low, high);
        }
        return s;
    }

    static SpanRows withNumbers(long... numbers) {
        SpanRows s = withNames(numbers.length);
        for (int x = 0; x < numbers.length; x++) {
            s.give(x, numbers[x]);
        }
        return s;
    }

    /** An object with as many rows kept; each is empty, and so of kind 2. */
    static SpanRows withKept(int names, int kept) {
        SpanRows s = withNames(names);
        for (int i = 0; i < kept; i++) {
            s.keep(2, 0);
        }
        return s;
    }

    static SpanRows withMarks(int names, int marks) {
        SpanRows s = withNames(names);
        for (int i = 0; i < marks; i++) {
            s.mark();
        }
        return s;
    }

    /** Numbers that are not those of one of so many names (or rows, or ways). */
    static int[] notBelow(int size) {
        return new int[] {-1, size, size + 1, 64 + size, Integer.MIN_VALUE, Integer.MAX_VALUE};
    }

    /** Puts names with the factor 1. */
    static void putAll(SpanRows s, int... names) {
        for (int x : names) {
            s.put(x, 1);
        }
    }

    static void putTimes(SpanRows s, int x, int times) {
        for (int i = 0; i < times; i++) {
            s.put(x, 1);
        }
    }

    /** Keeps a row of names with the factor 1. */
    static int keepOf(SpanRows s, int kind, long k, int... names) {
        putAll(s, names);
        return s.keep(kind, k);
    }

    /** Keeps that a name is not below a number. */
    static int keepAtLeast(SpanRows s, int x, long least) {
        s.put(x, -1);
        return s.keep(0, -least);
    }

    static int labelOf(SpanRows s, int... names) {
        putAll(s, names);
        return s.label();
    }

    static void dueFree(SpanRows s, int x) {
        due("about(" + x + ", 0)", s.about(x, 0), 0);
        due("bound(" + x + ", false)", s.bound(x, false), LEAST);
        due("bound(" + x + ", true)", s.bound(x, true), GREATEST);
    }

    static void dueSpan(SpanRows s, int x, long low, long high) {
        due("about(" + x + ", 0)", s.about(x, 0), 1);
        due("bound(" + x + ", false)", s.bound(x, false), low);
        due("bound(" + x + ", true)", s.bound(x, true), high);
    }

    static void dueNumber(SpanRows s, int x, long number) {
        due("about(" + x + ", 0)", s.about(x, 0), 2);
        due("bound(" + x + ", false)", s.bound(x, false), number);
        due("bound(" + x + ", true)", s.bound(x, true), number);
    }

    static void dueWay(SpanRows s, int i, long... numbers) {
        for (int j = 0; j < numbers.length; j++) {
            due("way(" + i + ", " + j + ")", s.way(i, j), numbers[j]);
        }
    }

    /** All that can be asked of an object. It takes many calls: for small objects alone. */
    static String picture(SpanRows s) {
        StringBuilder all = new StringBuilder("count:");
        for (int what = 0; what <= 6; what++) {
            all.append(' ').append(s.count(what));
        }
        for (int x = 0; x < s.count(0); x++) {
            all.append("; name ").append(x).append(':');
            for (int what = 0; what <= 4; what++) {
                all.append(' ').append(s.about(x, what));
            }
            all.append(" in ").append(s.bound(x, false)).append(" .. ").append(s.bound(x, true));
        }
        for (int i = 0; i < s.count(1); i++) {
            all.append("; kept ").append(i).append(':');
            for (int what = 0; what <= 2; what++) {
                all.append(' ').append(s.kept(i, what));
            }
        }
        for (int i = 0; i < s.count(4); i++) {
            all.append("; way ").append(i).append(':');
            for (int j = 0; j < s.count(5); j++) {
                all.append(' ').append(s.way(i, j));
            }
        }
        return all.toString();
    }
}
