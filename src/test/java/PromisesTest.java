/** For each promise of the document: ordinary inputs, the edges that it names, and wrong inputs. */
public final class PromisesTest extends Checks {
    private static final int[] WRONG_NAMES = {-1, 2, 63, 64, Integer.MIN_VALUE, Integer.MAX_VALUE};

    private PromisesTest() {
    }

    private static int keepUnlike(SpanRows s, int... names) {
        putAll(s, names);
        return s.keep(2, 0);
    }

    public static void main(String[] args) {
        newObject();
        name();
        span();
        give();
        giveAgainstKept();
        equal();
        equalSpans();
        equalAgainstKept();
        put();
        keep();
        keepSums();
        keepUnlikes();
        label();
        labelOrder();
        labelAtTheGreatest();
        labelLimits();
        labelKept();
        waysEnd();
        waysStay();
        way();
        take();
        mark();
        back();
        backRow();
        backDeep();
        about();
        aboutRows();
        aboutLabel();
        bound();
        kept();
        count();
        fullObject();
        int wrong = wrongAnswers();
        System.out.println(wrong == 0 ? "all promises are kept" : wrong + " answers are not as due");
        if (wrong != 0) {
            System.exit(1);
        }
    }

    private static void newObject() {
        begin("Promise 1");
        SpanRows s = new SpanRows();
        for (int what = 0; what <= 6; what++) {
            due("count(" + what + ")", s.count(what), 0);
        }
        due("about(0, 0)", s.about(0, 0), NONE);
        due("kept(0, 0)", s.kept(0, 0), NONE);
        due("back()", s.back(), NONE);
        due("take(0)", s.take(0), false);
        due("way(0, 0)", s.way(0, 0), 0);
        due("bound(0, true)", s.bound(0, true), 0);
        SpanRows other = withNames(3);
        due("names of another object", s.count(0), 0);
        due("names of the other object", other.count(0), 3);
    }

    private static void name() {
        begin("Promise 2");
        SpanRows s = new SpanRows();
        for (int i = 0; i < 64; i++) {
            due("name()", s.name(), i);
            due("about(x, 0)", s.about(i, 0), 0);
        }
        due("the 65th name()", s.name(), NONE);
        due("count(0)", s.count(0), 64);
        due("give(63, 7)", s.give(63, 7), true);
        due("give(64, 7)", s.give(64, 7), false);
        due("bound(63, true)", s.bound(63, true), 7);
        SpanRows again = withNames(1);
        again.mark();
        again.name();
        again.span(1, 3, 4);
        again.equal(0, 1);
        again.give(0, 3);
        again.back();
        due("name() after back()", again.name(), 1);
        due("the new name is free", again.about(1, 0), 0);
        due("the new name is its own least", again.about(1, 1), 1);
        due("the new name's least number", again.bound(1, false), LEAST);
        due("the new name's greatest number", again.bound(1, true), GREATEST);
    }

    private static void span() {
        begin("Promise 3");
        SpanRows s = withNames(2);
        due("span(0, -5, 5)", s.span(0, -5, 5), true);
        due("span(0, 0, 9)", s.span(0, 0, 9), true);
        due("low", s.bound(0, false), 0);
        due("high", s.bound(0, true), 5);
        due("span beyond", s.span(0, 6, 9), false);
        due("span below", s.span(0, -9, -1), false);
        due("high below low", s.span(0, 4, 3), false);
        due("low after fails", s.bound(0, false), 0);
        due("high after fails", s.bound(0, true), 5);
        due("wider span", s.span(0, LEAST, GREATEST), true);
        due("high after the wider span", s.bound(0, true), 5);
        due("touching span", s.span(0, 5, 8), true);
        due("one number alone leaves it free", s.about(0, 0), 1);
        due("high below low without a span", s.span(1, GREATEST, LEAST), false);
        due("no span after a fail", s.about(1, 0), 0);
        due("the widest span", s.span(1, LEAST, GREATEST), true);
        due("it has a span", s.about(1, 0), 1);
        s.give(1, 12);
        due("span round the number", s.span(1, 12, 12), true);
        due("it still has the number", s.about(1, 0), 2);
        due("span beside the number", s.span(1, 13, 20), false);
        due("span under the number", s.span(1, 0, 11), false);
        due("high below low round the number", s.span(1, 13, 11), false);
        for (int x : WRONG_NAMES) {
            due("span of no name", s.span(x, 0, 1), false);
        }
        SpanRows one = withNames(2);
        one.equal(0, 1);
        one.span(1, 2, 3);
        due("the span holds for the one", one.bound(0, true), 3);
        due("span that fails for the one", one.span(0, 4, 5), false);
    }

    private static void give() {
        begin("Promise 4");
        SpanRows s = withNames(2);
        s.span(0, 2, 4);
        due("give below the span", s.give(0, 1), false);
        due("give above the span", s.give(0, 5), false);
        due("still free", s.about(0, 0), 1);
        due("give the least", s.give(0, 2), true);
        due("it has a number", s.about(0, 0), 2);
        due("give it again", s.give(0, 2), true);
        due("give another", s.give(0, 3), false);
        due("the number stays", s.bound(0, true), 2);
        due("give without a span", s.give(1, LEAST), true);
        due("bound", s.bound(1, true), LEAST);
        for (int x : WRONG_NAMES) {
            due("give to no name", s.give(x, 0), false);
        }
        SpanRows one = withNames(3);
        one.equal(2, 1);
        one.span(1, 0, 9);
        due("give the greatest of the span", one.give(2, 9), true);
        due("the one has it, too", one.bound(1, false), 9);
        due("the one gets no other", one.give(1, 8), false);
        due("the other does not have it", one.about(0, 0), 0);
    }

    private static void giveAgainstKept() {
        begin("Promise 4");
        SpanRows s = withNames(3);
        keepUnlike(s, 0, 1);
        keepOf(s, 1, 10, 0, 1, 2);
        due("give(0, 3)", s.give(0, 3), true);
        due("give(1, 3) is alike", s.give(1, 3), false);
        due("it is free after that", s.about(1, 0), 0);
        due("give(1, 4)", s.give(1, 4), true);
        due("give(2, 4) sums up wrong", s.give(2, 4), false);
        due("the row has a free name", s.kept(1, 2), 1);
        due("give(2, 3)", s.give(2, 3), true);
        SpanRows one = withSpans(3, 0, 9);
        one.equal(0, 1);
        keepOf(one, 0, 7, 0, 1);
        due("give of two that are one beyond the sum", one.give(1, 4), false);
        due("its span is still there", one.bound(0, true), 9);
        due("free with a span", one.about(0, 0), 1);
        due("give of two that are one", one.give(1, 3), true);
        SpanRows both = withNames(2);
        both.equal(0, 1);
        due("two that are one are kept unlike while free", keepUnlike(both, 0, 1), 1);
        due("no number is good", both.give(0, 5), false);
    }

    private static void equal() {
        begin("Promise 5");
        SpanRows s = withNames(6);
        due("equal(4, 2)", s.equal(4, 2), true);
        due("equal(3, 4)", s.equal(3, 4), true);
        due("least of 3", s.about(3, 1), 2);
        due("equal(5, 1)", s.equal(5, 1), true);
        due("equal(3, 5)", s.equal(3, 5), true);
        for (int x = 1; x <= 5; x++) {
            due("least of all", s.about(x, 1), 1);
            due("how many", s.about(x, 2), 5);
        }
        due("0 is alone", s.about(0, 2), 1);
        due("equal again", s.equal(2, 5), true);
        due("a name and itself", s.equal(0, 0), true);
        due("how many 0", s.about(0, 2), 1);
        due("give(4, 8)", s.give(4, 8), true);
        due("5 has it", s.bound(5, true), 8);
        due("a number and itself", s.equal(4, 4), true);
        due("a free one with a number", s.equal(0, 4), true);
        due("0 has it", s.bound(0, false), 8);
        for (int x : new int[] {-1, 6, 64, Integer.MIN_VALUE, Integer.MAX_VALUE}) {
            due("equal(x, 0)", s.equal(x, 0), false);
            due("equal(0, x)", s.equal(0, x), false);
            due("equal(x, x)", s.equal(x, x), false);
        }
        SpanRows numbers = withNames(4);
        numbers.give(0, 1);
        numbers.give(1, 2);
        numbers.give(2, 1);
        due("two numbers", numbers.equal(0, 1), false);
        due("they are not one", numbers.about(0, 2), 1);
        due("one number twice", numbers.equal(2, 0), true);
        due("they are one", numbers.about(2, 1), 0);
        due("a number for a free one in front", numbers.equal(3, 1), true);
        due("the free one has it", numbers.bound(3, true), 2);
    }

    private static void equalSpans() {
        begin("Promise 5");
        SpanRows s = withNames(6);
        s.span(0, 0, 5);
        s.span(1, 5, 9);
        s.span(2, 6, 9);
        due("no number in common", s.equal(0, 2), false);
        due("not one", s.about(2, 1), 2);
        due("span of 0 as before", s.bound(0, true), 5);
        due("span of 2 as before", s.bound(2, false), 6);
        due("one number in common", s.equal(1, 0), true);
        due("low of 0", s.bound(0, false), 5);
        due("high of 1", s.bound(1, true), 5);
        due("then 2 has none in common", s.equal(1, 2), false);
        due("without a span, span behind", s.equal(3, 2), true);
        due("3 has the span", s.about(3, 0), 1);
        due("low of 3", s.bound(3, false), 6);
        due("two without spans", s.equal(4, 5), true);
        due("still without", s.about(4, 0), 0);
        due("span then without", s.equal(2, 4), true);
        due("5 has the span", s.bound(5, true), 9);
        SpanRows t = withNames(3);
        t.span(0, 3, 4);
        t.give(1, 5);
        t.give(2, 4);
        due("number out of the span, behind", t.equal(0, 1), false);
        due("number out of the span, in front", t.equal(1, 0), false);
        due("still free", t.about(0, 0), 1);
        due("number in the span", t.equal(0, 2), true);
        due("has the number", t.bound(0, false), 4);
    }

    private static void equalAgainstKept() {
        begin("Promise 5");
        SpanRows s = withSpans(4, 0, 9);
        keepUnlike(s, 0, 1);
        keepOf(s, 1, 7, 1, 2);
        s.give(0, 3);
        due("it would be alike", s.equal(0, 1), false);
        due("1 is free", s.about(1, 0), 1);
        due("1 is alone", s.about(1, 2), 1);
        due("span of 1", s.bound(1, true), 9);
        due("3 with 0", s.equal(3, 0), true);
        s.give(2, 5);
        due("1 would get 3", s.equal(1, 3), false);
        due("1 would get 5", s.equal(2, 1), false);
        due("2 is alone", s.about(2, 2), 1);
        due("give(1, 2)", s.give(1, 2), true);
        SpanRows free = withNames(2);
        keepUnlike(free, 0, 1);
        due("two free unlike ones are made one", free.equal(0, 1), true);
        due("no number is good then", free.give(1, 0), false);
    }

    private static void put() {
        begin("Promise 6");
        SpanRows s = withNames(2);
        for (int x : WRONG_NAMES) {
            due("put of no name", s.put(x, 1), NONE);
        }
        due("the row is empty", s.count(3), 0);
        for (int i = 1; i <= 32; i++) {
            due("put", s.put(i % 2, i), i);
        }
        due("the 33rd put", s.put(0, 1), NONE);
        due("the row has 32", s.count(3), 32);
        due("all 32 are kept", s.keep(0, 0), 1);
        due("32 names", s.kept(0, 1), 32);
        due("put into the emptied row", s.put(1, LEAST), 1);
    }

    private static void keep() {
        begin("Promise 7");
        SpanRows s = withNames(2);
        putAll(s, 0, 1);
        due("kind 3", s.keep(3, 0), NONE);
        due("the row is taken", s.count(3), 0);
        putAll(s, 0, 1);
        due("kind -1", s.keep(-1, 0), NONE);
        due("the row is taken", s.count(3), 0);
        due("kind of all bits", s.keep(Integer.MIN_VALUE, 0), NONE);
        due("nothing is kept", s.count(1), 0);
        s.give(0, 4);
        due("fails", keepOf(s, 1, 5, 0), 0);
        due("the row is taken", s.count(3), 0);
        due("nothing is kept", s.count(1), 0);
        due("one of two is free", keepOf(s, 1, 5, 0, 1), 1);
        due("the row is taken", s.count(3), 0);
        due("empty, unlike", s.keep(2, 9), 1);
        due("empty, at most -1", s.keep(0, -1), 0);
        due("empty, at most 0", s.keep(0, 0), 1);
        due("empty, 1", s.keep(1, 1), 0);
        due("empty, 0", s.keep(1, 0), 1);
        due("kept", s.count(1), 4);
        for (int i = 4; i < 60; i++) {
            due("keep", keepUnlike(s, 0, 1), 1);
        }
        due("the 61st", keepUnlike(s, 0, 1), NONE);
        due("the row is taken", s.count(3), 0);
        due("the 61st, that would fail", keepOf(s, 1, 5, 0), NONE);
        due("60 are kept", s.count(1), 60);
        due("the latest is in force", s.give(1, 4), false);
    }

    private static void keepSums() {
        begin("Promise 7");
        SpanRows s = withNames(3);
        s.give(0, 3);
        s.give(1, -4);
        s.put(0, 5);
        s.put(1, 2);
        due("15 - 8 at most 6", s.keep(0, 6), 0);
        s.put(0, 5);
        s.put(1, 2);
        due("15 - 8 at most 7", s.keep(0, 7), 1);
        s.put(0, 5);
        s.put(1, 2);
        due("15 - 8 is 8", s.keep(1, 8), 0);
        s.put(0, 5);
        s.put(1, 2);
        s.put(0, 1);
        due("a name twice: 18 - 8 is 10", s.keep(1, 10), 1);
        s.give(2, GREATEST);
        s.put(2, 1);
        s.put(0, 1);
        due("a sum wraps to the least", s.keep(0, LEAST + 1), 0);
        s.put(2, 1);
        s.put(0, 1);
        due("a sum wraps", s.keep(0, LEAST + 2), 1);
        s.put(2, 2);
        due("a product wraps", s.keep(1, -2), 1);
        s.put(1, LEAST);
        due("a product wraps to 0", s.keep(1, 0), 1);
    }

    private static void keepUnlikes() {
        begin("Promise 7");
        SpanRows s = withNames(4);
        s.give(0, 3);
        s.give(1, 4);
        s.give(2, 3);
        due("unlike", keepUnlike(s, 0, 1), 1);
        due("alike", keepUnlike(s, 0, 1, 2), 0);
        due("a name twice", keepUnlike(s, 1, 1), 0);
        due("one name", keepUnlike(s, 1), 1);
        due("alike, but one is free", keepUnlike(s, 0, 2, 3), 1);
        due("then no number is good", s.give(3, 9), false);
        s.put(0, 0);
        s.put(1, 0);
        due("factors and k count for nothing", s.keep(2, LEAST), 1);
        SpanRows one = withNames(2);
        one.equal(0, 1);
        one.give(0, 1);
        due("two that are one", keepUnlike(one, 0, 1), 0);
    }

    private static void label() {
        begin("Promise 8");
        SpanRows s = withSpans(3, 0, 2);
        keepOf(s, 1, 2, 0, 1, 2);
        due("label", labelOf(s, 0, 1, 2), 6);
        due("the row is taken", s.count(3), 0);
        due("tried", s.count(6), 3 + 9 + 27);
        long[][] ways = {{0, 0, 2}, {0, 1, 1}, {0, 2, 0}, {1, 0, 1}, {1, 1, 0}, {2, 0, 0}};
        for (int i = 0; i < ways.length; i++) {
            for (int j = 0; j < 3; j++) {
                due("way(" + i + ", " + j + ")", s.way(i, j), ways[i][j]);
            }
        }
        due("the names are as before", s.about(0, 0), 1);
        due("low", s.bound(2, false), 0);
        due("high", s.bound(2, true), 2);
        due("kept has its free names", s.kept(0, 2), 3);
        due("of an empty row", s.label(), 1);
        due("it tried none", s.count(6), 0);
        s.give(0, 1);
        due("of numbers alone", labelOf(s, 0, 0), 1);
        due("no free names", s.count(5), 0);
        due("a part of the names", labelOf(s, 0, 2), 3);
        due("tried", s.count(6), 3);
        due("the first free one", s.way(2, 0), 2);
        due("the rest", labelOf(s, 2, 0, 1), 2);
        due("way(0, 0)", s.way(0, 0), 0);
        due("way(0, 1)", s.way(0, 1), 1);
        SpanRows none = withSpans(2, 5, 6);
        keepUnlike(none, 0, 1);
        keepOf(none, 1, 12, 0, 1);
        due("no way", labelOf(none, 0, 1), 0);
        due("tried", none.count(6), 6);
        due("free names of none", none.count(5), 2);
    }

    private static void labelOrder() {
        begin("Promise 8");
        SpanRows s = withSpans(4, 1, 2);
        s.span(3, 2, 2);
        s.equal(0, 2);
        due("label in the order of the row", labelOf(s, 3, 2, 1, 0, 1), 4);
        due("each once", s.count(5), 3);
        due("way(1, 0)", s.way(1, 0), 2);
        due("way(1, 1)", s.way(1, 1), 1);
        due("way(1, 2)", s.way(1, 2), 2);
        due("way(2, 1)", s.way(2, 1), 2);
        due("way(2, 2)", s.way(2, 2), 1);
        due("tried", s.count(6), 1 + 2 + 4);
        SpanRows t = withSpans(2, 1, 3);
        keepOf(t, 1, 2, 0);
        due("what is complete early cuts", labelOf(t, 0, 1), 3);
        due("tried", t.count(6), 3 + 3);
        due("what is complete late does not", labelOf(t, 1, 0), 3);
        due("tried", t.count(6), 3 + 9);
    }

    private static void labelAtTheGreatest() {
        begin("Promise 8");
        SpanRows s = withNames(3);
        s.span(0, GREATEST - 1, GREATEST);
        s.span(1, LEAST, LEAST + 1);
        s.span(2, LEAST, GREATEST);
        due("label at the edges of 64 bits", labelOf(s, 0, 1), 4);
        due("tried", s.count(6), 6);
        due("way(3, 0)", s.way(3, 0), GREATEST);
        due("way(0, 1)", s.way(0, 1), LEAST);
        due("the widest span", labelOf(s, 2), -4);
        keepOf(s, 1, GREATEST, 2);
        due("the widest span, none good", labelOf(s, 2), -3);
        due("tried", s.count(6), 5000);
        due("span as before", s.bound(2, true), GREATEST);
    }

    private static void labelLimits() {
        begin("Promise 8");
        SpanRows s = withSpans(10, 0, 0);
        due("8 free", labelOf(s, 0, 1, 2, 3, 4, 5, 6, 7), 1);
        due("tried", s.count(6), 8);
        due("9 free", labelOf(s, 0, 1, 2, 3, 4, 5, 6, 7, 8), -2);
        due("tried of -2", s.count(6), 0);
        due("the row is taken", s.count(3), 0);
        int unspanned = s.name();
        due("9 free, one more without a span", labelOf(s, 0, 1, 2, 3, 4, 5, 6, 7, 8, unspanned), NONE);
        due("tried of NONE", s.count(6), 0);
        due("the row is taken", s.count(3), 0);
        s.equal(8, 0);
        s.give(9, 0);
        due("8 that are free, one that is one, one with a number", labelOf(s, 0, 1, 2, 3, 4, 5, 6, 7, 8, 9), 1);

        SpanRows t = withNames(3);
        t.span(0, 1, 200);
        t.span(1, 1, 201);
        due("200 ways", labelOf(t, 0), 200);
        due("the last way", t.way(199, 0), 200);
        due("201 ways", labelOf(t, 1), -4);
        due("tried", t.count(6), 201);
        due("no ways", t.count(4), 0);
        due("no free names", t.count(5), 0);
        due("no way(0, 0)", t.way(0, 0), 0);
        due("no take(0)", t.take(0), false);
        due("free as before", t.about(1, 0), 1);
        t.span(2, 1, 5000);
        keepOf(t, 0, 3, 2);
        due("5000 tried", labelOf(t, 2), 3);
        due("tried", t.count(6), 5000);
        t.span(0, 1, 1);
        due("5000 tried and one more", labelOf(t, 0, 2), -3);
        due("tried", t.count(6), 5000);
        due("no ways of -3", t.count(4), 0);
        due("no free names of -3", t.count(5), 0);

        SpanRows edge = withNames(1);
        edge.span(0, 0, 5000);
        edge.put(0, -1);
        edge.keep(0, -4799);
        due("the 201st way would be number 5001, and 4999 is way 201", labelOf(edge, 0), -4);
        due("tried", edge.count(6), 5000);
        SpanRows past = withNames(1);
        past.span(0, 0, 5000);
        past.put(0, -1);
        past.keep(0, -4800);
        due("the limit of tries comes first", labelOf(past, 0), -3);
        due("tried", past.count(6), 5000);
    }

    private static void labelKept() {
        begin("Promise 8");
        SpanRows s = withSpans(3, 1, 3);
        keepUnlike(s, 0, 1);
        keepUnlike(s, 1, 2);
        s.give(2, 2);
        due("a row with a number", labelOf(s, 1), 2);
        due("way(0, 0)", s.way(0, 0), 1);
        due("way(1, 0)", s.way(1, 0), 3);
        due("both", labelOf(s, 1, 0), 4);
        keepOf(s, 0, 3, 0, 1);
        due("one sum more", labelOf(s, 1, 0), 1);
        s.equal(0, 1);
        due("two unlike ones that are one", labelOf(s, 0), 0);
        due("each number was tried", s.count(6), 3);
        SpanRows one = withSpans(2, 0, 5);
        one.equal(0, 1);
        keepOf(one, 1, 6, 0, 1);
        due("a sum of two that are one", labelOf(one, 1), 1);
        due("way(0, 0)", one.way(0, 0), 3);
        SpanRows wraps = withSpans(1, 0, 4);
        wraps.put(0, LEAST);
        wraps.keep(1, 0);
        due("products wrap", labelOf(wraps, 0), 3);
        due("way(2, 0)", wraps.way(2, 0), 4);
    }

    private static SpanRows withWays() {
        SpanRows s = withSpans(3, 1, 2);
        s.mark();
        labelOf(s, 0, 1);
        due("ways", s.count(4), 4);
        return s;
    }

    private static void gone(String by, SpanRows s) {
        due("ways after " + by, s.count(4), 0);
        due("free names after " + by, s.count(5), 0);
        due("about(0, 4) after " + by, s.about(0, 4), 0);
        due("way(1, 1) after " + by, s.way(1, 1), 0);
        due("take(0) after " + by, s.take(0), false);
    }

    private static void there(String by, SpanRows s) {
        due("ways after " + by, s.count(4), 4);
        due("free names after " + by, s.count(5), 2);
        due("about(0, 4) after " + by, s.about(0, 4), 1);
        due("way(1, 1) after " + by, s.way(1, 1), 2);
    }

    private static void waysEnd() {
        begin("Promise 8");
        SpanRows s = withWays();
        s.name();
        gone("name()", s);
        s = withWays();
        s.span(2, 0, 9);
        gone("span()", s);
        s = withWays();
        s.give(2, 1);
        gone("give()", s);
        s = withWays();
        s.equal(2, 2);
        gone("equal()", s);
        s = withWays();
        s.take(3);
        gone("take()", s);
        due("tried stays", s.count(6), 6);
        s = withWays();
        s.back();
        gone("back()", s);
        due("tried stays", s.count(6), 6);
        s = withWays();
        s.keep(2, 0);
        gone("keep() 1", s);
        s = withWays();
        s.keep(1, 1);
        gone("keep() 0", s);
        s = withWays();
        s.keep(3, 1);
        gone("keep() NONE", s);
        s = withWays();
        s.name();
        labelOf(s, 3);
        gone("label() NONE", s);
        s = withWays();
        due("label() of nothing", s.label(), 1);
        due("its ways", s.count(4), 1);
        due("its free names", s.count(5), 0);
        due("take(0) of nothing", s.take(0), true);
        due("ways after that", s.count(4), 0);
        s = withSpans(9, 0, 0);
        labelOf(s, 0, 1);
        due("ways", s.count(4), 1);
        labelOf(s, 0, 1, 2, 3, 4, 5, 6, 7, 8);
        gone("label() -2", s);
    }

    private static void waysStay() {
        begin("Promise 8");
        SpanRows s = withWays();
        s.span(0, 3, 4);
        there("span() false", s);
        s.give(0, 5);
        there("give() false", s);
        s.equal(0, 9);
        there("equal() false", s);
        s.take(4);
        there("take() false", s);
        s.mark();
        there("mark()", s);
        s.put(2, 1);
        there("put()", s);
        SpanRows noMark = withSpans(2, 1, 2);
        labelOf(noMark, 0, 1);
        noMark.back();
        there("back() NONE", noMark);
        SpanRows full = withSpans(64, 1, 2);
        labelOf(full, 0, 1);
        full.name();
        there("name() NONE", full);
    }

    private static void way() {
        begin("Promise 9");
        SpanRows s = withSpans(2, 7, 8);
        labelOf(s, 1, 0);
        due("way(1, 0)", s.way(1, 0), 7);
        due("way(1, 1)", s.way(1, 1), 8);
        for (int i : new int[] {-1, 4, 200, Integer.MIN_VALUE, Integer.MAX_VALUE}) {
            due("way(i, 0)", s.way(i, 0), 0);
        }
        for (int j : new int[] {-1, 2, 8, Integer.MIN_VALUE, Integer.MAX_VALUE}) {
            due("way(1, j)", s.way(1, j), 0);
        }
        labelOf(s, 1);
        due("way(0, 1) is not the earlier one", s.way(0, 1), 0);
        due("way(2, 0) is not the earlier one", s.way(2, 0), 0);
    }

    private static void take() {
        begin("Promise 10");
        SpanRows s = withSpans(4, 1, 3);
        s.equal(1, 3);
        keepUnlike(s, 0, 1);
        labelOf(s, 3, 0);
        for (int i : new int[] {-1, 6, 200, Integer.MIN_VALUE, Integer.MAX_VALUE}) {
            due("take(i)", s.take(i), false);
        }
        due("nothing was taken", s.about(0, 0), 1);
        due("take(3)", s.take(3), true);
        due("number of 0", s.bound(0, false), 3);
        due("number of 1", s.bound(1, true), 2);
        due("number of 3", s.bound(3, true), 2);
        due("2 is free", s.about(2, 0), 1);
        due("kept is complete", s.kept(0, 2), 0);
        due("take again", s.take(3), false);
        due("another number", s.give(3, 1), false);
        SpanRows none = withSpans(1, 1, 3);
        keepOf(none, 1, 4, 0);
        labelOf(none, 0);
        due("take of no ways", none.take(0), false);
        due("take of a new object", new SpanRows().take(0), false);
    }

    private static void mark() {
        begin("Promise 11");
        SpanRows s = withNames(1);
        for (int i = 1; i <= 40; i++) {
            due("mark()", s.mark(), i);
        }
        due("the 41st mark()", s.mark(), NONE);
        due("count(2)", s.count(2), 40);
        due("back()", s.back(), 39);
        due("mark()", s.mark(), 40);
    }

    private static void back() {
        begin("Promise 12");
        SpanRows s = withNames(4);
        s.span(0, 0, 9);
        s.equal(0, 1);
        s.give(3, 6);
        keepUnlike(s, 0, 3);
        due("mark()", s.mark(), 1);
        s.span(1, 2, 4);
        s.equal(2, 1);
        s.give(2, 3);
        s.name();
        keepUnlike(s, 0, 1, 4);
        due("back()", s.back(), 0);
        due("names", s.count(0), 4);
        due("kept", s.count(1), 1);
        due("marks", s.count(2), 0);
        due("0 has its span", s.about(0, 0), 1);
        due("low of 0", s.bound(0, false), 0);
        due("high of 1", s.bound(1, true), 9);
        due("0 and 1 are one", s.about(1, 1), 0);
        due("2 is alone", s.about(2, 2), 1);
        due("2 is free", s.about(2, 0), 0);
        due("3 has its number", s.bound(3, true), 6);
        due("what is kept still holds", s.give(1, 6), false);
        due("what was kept later is gone", s.give(1, 3), true);
        due("back() without a mark", s.back(), NONE);
        due("it changed nothing", s.bound(0, true), 3);
        due("back() of a new object", new SpanRows().back(), NONE);
        SpanRows taken = withSpans(2, 1, 2);
        taken.mark();
        labelOf(taken, 0, 1);
        taken.take(2);
        due("back() of take()", taken.back(), 0);
        due("free again", taken.about(0, 0), 1);
        due("span again", taken.bound(1, true), 2);
    }

    private static void backRow() {
        begin("Promise 12");
        SpanRows s = withNames(2);
        s.put(0, 1);
        s.mark();
        s.name();
        s.put(1, 2);
        s.put(2, 3);
        s.put(0, 4);
        s.put(2, 5);
        s.back();
        due("the row up to the first name that is gone", s.count(3), 2);
        s.keep(1, 12);
        due("names of the row", s.kept(0, 1), 2);
        s.give(0, 2);
        due("the factors stayed", s.give(1, 5), true);
        s.mark();
        putAll(s, 0, 1, 0);
        s.back();
        due("a row without such names stays", s.count(3), 3);
        s.mark();
        s.keep(2, 0);
        s.back();
        due("a row that was taken stays taken", s.count(3), 0);
        s.mark();
        s.name();
        s.put(2, 1);
        s.put(0, 1);
        s.back();
        s.name();
        due("it does not come back with the name", s.count(3), 0);
    }

    private static void backDeep() {
        begin("Promise 12");
        SpanRows s = withNames(1);
        for (int i = 0; i < 40; i++) {
            s.mark();
            s.span(0, i, 100 - i);
            s.name();
            keepOf(s, 0, i, 0, i + 1);
        }
        for (int i = 39; i >= 0; i--) {
            due("names", s.count(0), i + 2);
            due("kept", s.count(1), i + 1);
            due("low", s.bound(0, false), i);
            due("back()", s.back(), i);
            due("names", s.count(0), i + 1);
            due("high", s.bound(0, true), i == 0 ? GREATEST : 101 - i);
        }
        due("free without a span", s.about(0, 0), 0);
        s.mark();
        s.give(0, 77);
        s.mark();
        s.name();
        due("back()", s.back(), 1);
        due("a slot that is used again holds the new state", s.bound(0, true), 77);
        due("back()", s.back(), 0);
        due("free again", s.about(0, 0), 0);
    }

    private static void about() {
        begin("Promise 13");
        SpanRows s = withNames(2);
        for (int x : WRONG_NAMES) {
            for (int what = -1; what <= 5; what++) {
                due("about no name", s.about(x, what), NONE);
            }
        }
        for (int what : new int[] {-1, 5, Integer.MIN_VALUE, Integer.MAX_VALUE}) {
            due("about(0, what)", s.about(0, what), NONE);
        }
        due("free", s.about(1, 0), 0);
        due("least", s.about(1, 1), 1);
        due("how many", s.about(1, 2), 1);
        due("rows", s.about(1, 3), 0);
        due("labelled", s.about(1, 4), 0);
        s.span(1, 4, 4);
        due("with a span", s.about(1, 0), 1);
        s.give(1, 4);
        due("with a number", s.about(1, 0), 2);
        s.equal(1, 0);
        due("one with a number", s.about(0, 0), 2);
        due("least", s.about(1, 1), 0);
        due("how many", s.about(0, 2), 2);
    }

    private static void aboutRows() {
        begin("Promise 13");
        SpanRows s = withNames(4);
        keepUnlike(s, 0, 1);
        keepOf(s, 0, 5, 1, 1, 2);
        keepOf(s, 1, 5, 3, 0);
        s.put(3, 0);
        due("rows of 0", s.about(0, 3), 2);
        due("rows of 1", s.about(1, 3), 2);
        due("rows of 2", s.about(2, 3), 1);
        due("rows of 3, not the row that is put", s.about(3, 3), 1);
        s.equal(0, 1);
        due("rows of 0 and 1, each once", s.about(0, 3), 3);
        due("rows of 1 and 0, each once", s.about(1, 3), 3);
        s.give(0, 1);
        due("rows of a number", s.about(1, 3), 3);
    }

    private static void aboutLabel() {
        begin("Promise 13");
        SpanRows s = withSpans(5, 1, 2);
        s.equal(1, 3);
        s.give(4, 1);
        labelOf(s, 3, 4, 0);
        due("0 is a free name", s.about(0, 4), 1);
        due("1 is one with a free name", s.about(1, 4), 1);
        due("2 is not in the row", s.about(2, 4), 0);
        due("3 is a free name", s.about(3, 4), 1);
        due("4 is not free", s.about(4, 4), 0);
        keepOf(s, 1, 9, 0);
        due("not after keep()", s.about(0, 4), 0);
        due("no ways", labelOf(s, 0), 0);
        due("also if they are none", s.about(0, 4), 1);
        due("not of the earlier label()", s.about(1, 4), 0);
        SpanRows wide = withNames(1);
        wide.span(0, 0, 9999);
        due("-4", labelOf(wide, 0), -4);
        due("no ways are there", wide.about(0, 4), 0);
    }

    private static void bound() {
        begin("Promise 14");
        SpanRows s = withNames(2);
        due("least of 64 bits", s.bound(0, false), LEAST);
        due("greatest of 64 bits", s.bound(0, true), GREATEST);
        s.span(0, -3, 8);
        due("least of the span", s.bound(0, false), -3);
        due("greatest of the span", s.bound(0, true), 8);
        s.give(0, 2);
        due("number", s.bound(0, false), 2);
        due("number", s.bound(0, true), 2);
        s.equal(0, 1);
        due("number of the one", s.bound(1, false), 2);
        for (int x : WRONG_NAMES) {
            due("bound of no name", s.bound(x, false), 0);
            due("bound of no name", s.bound(x, true), 0);
        }
    }

    private static void kept() {
        begin("Promise 15");
        SpanRows s = withNames(3);
        s.equal(0, 1);
        for (int kind = 0; kind <= 2; kind++) {
            keepOf(s, kind, 100, 0, 1, 2, 2);
        }
        s.keep(2, 0);
        for (int kind = 0; kind <= 2; kind++) {
            due("kind", s.kept(kind, 0), kind);
            due("names", s.kept(kind, 1), 4);
            due("free, each place", s.kept(kind, 2), 4);
        }
        due("names of an empty one", s.kept(3, 1), 0);
        due("free of an empty one", s.kept(3, 2), 0);
        s.give(1, 5);
        due("free after give()", s.kept(0, 2), 2);
        for (int i : new int[] {-1, 4, 60, Integer.MIN_VALUE, Integer.MAX_VALUE}) {
            due("kept(i, 0)", s.kept(i, 0), NONE);
        }
        for (int what : new int[] {-1, 3, Integer.MIN_VALUE, Integer.MAX_VALUE}) {
            due("kept(0, what)", s.kept(0, what), NONE);
        }
    }

    private static void count() {
        begin("Promise 16");
        SpanRows s = withSpans(5, 1, 3);
        s.mark();
        s.mark();
        keepUnlike(s, 0, 1);
        labelOf(s, 0, 1);
        putAll(s, 0, 1, 2, 3);
        due("names", s.count(0), 5);
        due("kept", s.count(1), 1);
        due("marks", s.count(2), 2);
        due("the row", s.count(3), 4);
        due("ways", s.count(4), 6);
        due("free names", s.count(5), 2);
        due("tried", s.count(6), 12);
        s.keep(1, 1);
        due("tried after keep()", s.count(6), 12);
        s.back();
        due("tried after back()", s.count(6), 12);
        s.name();
        labelOf(s, 5);
        due("tried of NONE", s.count(6), 0);
        for (int what : new int[] {-1, 7, Integer.MIN_VALUE, Integer.MAX_VALUE}) {
            due("count(what)", s.count(what), NONE);
        }
    }

    /** All limits at once: 64 names, 60 kept, 40 marks, a row of 32, and 200 ways of 8 names. */
    private static void fullObject() {
        begin("Promise 12");
        SpanRows s = withSpans(64, 0, 4);
        for (int i = 0; i < 60; i++) {
            keepOf(s, 0, 20, i, 63);
        }
        for (int i = 0; i < 40; i++) {
            s.mark();
        }
        due("equal(62, 63)", s.equal(62, 63), true);
        for (int i = 0; i < 32; i++) {
            s.put(i + 32, 1);
        }
        due("back() with a full row", s.back(), 39);
        due("the row stays", s.count(3), 32);
        due("63 is alone", s.about(63, 2), 1);
        due("32 free", s.label(), -2);

        SpanRows t = withSpans(5, 1, 1);
        t.mark();
        for (int i = 5; i < 64; i++) {
            t.name();
        }
        t.span(61, 0, 4);
        t.span(62, 0, 4);
        t.span(63, 0, 7);
        for (int i = 0; i < 60; i++) {
            keepOf(t, 0, 11, 63, i < 30 ? 62 : i);
        }
        due("8 free, 200 ways", labelOf(t, 4, 3, 2, 1, 0, 61, 62, 63), 200);
        due("the last number of the last way", t.way(199, 7), 7);
        due("take(199)", t.take(199), true);
        due("number of 62", t.bound(62, true), 4);
        due("back() from 64 names", t.back(), 0);
        due("names", t.count(0), 5);
        due("kept", t.count(1), 0);
    }
}
