/** Boundary cases of promises 8 to 10: how long the ways are there, what they are, and taking one. */
final class WaysBoundaries extends Checks {
    private static final String UP_TO_KEEP_OR_LABEL = "The ways are there up to the next keep() or label()";
    private static final String UP_TO_THE_OTHERS =
        "and the next name(), span(), give(), equal(), take() or back() that isn't answered by false or NONE";

    private WaysBoundaries() {
    }

    /** Names 0 and 1 are labelled, with 4 ways; 2 has a number, 3 a span; there is one mark. */
    private static SpanRows withWays() {
        SpanRows s = withSpans(4, 1, 2);
        s.give(2, 2);
        s.mark();
        labelOf(s, 0, 1);
        return s;
    }

    private static void dueThere(String after, SpanRows s) {
        due("count(4) after " + after, s.count(4), 4);
        due("count(5) after " + after, s.count(5), 2);
        due("about(0, 4) after " + after, s.about(0, 4), 1);
        due("way(3, 1) after " + after, s.way(3, 1), 2);
    }

    private static void dueGone(String after, SpanRows s) {
        due("count(4) after " + after, s.count(4), 0);
        due("count(5) after " + after, s.count(5), 0);
        due("about(0, 4) after " + after, s.about(0, 4), 0);
        due("way(3, 1) after " + after, s.way(3, 1), 0);
        due("take(3) after " + after, s.take(3), false);
    }

    @Says(in = "Promise 8", words = UP_TO_KEEP_OR_LABEL)
    static void keepEndsTheWaysWhateverItAnswers() {
        SpanRows kept = withWays();
        due("keep(2, 0)", kept.keep(2, 0), 1);
        dueGone("keep() 1", kept);
        SpanRows failed = withWays();
        due("keep(1, 1)", failed.keep(1, 1), 0);
        dueGone("keep() 0", failed);
        SpanRows noKind = withWays();
        due("keep(3, 0)", noKind.keep(3, 0), NONE);
        dueGone("keep() NONE for the kind", noKind);
        SpanRows full = withKept(2, 60);
        full.span(0, 1, 2);
        full.span(1, 1, 2);
        labelOf(full, 0, 1);
        dueThere("label()", full);
        due("keep(2, 0)", full.keep(2, 0), NONE);
        dueGone("keep() NONE for 60", full);
    }

    @Says(in = "Promise 8", words = UP_TO_KEEP_OR_LABEL)
    static void nextLabelEndsTheWays() {
        SpanRows s = withWays();
        due("label() of the other name", labelOf(s, 3), 2);
        due("count(4)", s.count(4), 2);
        due("count(5)", s.count(5), 1);
        due("about(0, 4)", s.about(0, 4), 0);
        due("about(3, 4)", s.about(3, 4), 1);
        due("way(3, 0)", s.way(3, 0), 0);
        due("way(1, 1)", s.way(1, 1), 0);
        due("label() of nothing", s.label(), 1);
        due("count(5)", s.count(5), 0);
        due("about(3, 4)", s.about(3, 4), 0);
        due("way(0, 0)", s.way(0, 0), 0);
    }

    @Says(in = "Promise 8", words = UP_TO_KEEP_OR_LABEL)
    static void nextLabelEndsTheWaysThoughItHasNone() {
        SpanRows none = withWays();
        int x = none.name();
        labelOf(none, 0, 1);
        dueThere("label()", none);
        due("label() NONE", labelOf(none, x), NONE);
        dueGone("label() NONE", none);
        SpanRows wide = withWays();
        int y = wide.name();
        wide.span(y, LEAST, GREATEST);
        labelOf(wide, 0, 1);
        due("label() -4", labelOf(wide, y), -4);
        dueGone("label() -4", wide);
    }

    @Says(in = "Promise 8", words = UP_TO_THE_OTHERS)
    static void nameEndsTheWays() {
        SpanRows s = withWays();
        due("name()", s.name(), 4);
        dueGone("name()", s);
    }

    @Says(in = "Promise 8", words = UP_TO_THE_OTHERS)
    static void nameThatIsRefusedLeavesTheWays() {
        SpanRows s = withNames(64);
        s.span(0, 1, 2);
        s.span(1, 1, 2);
        labelOf(s, 0, 1);
        due("name()", s.name(), NONE);
        dueThere("name() NONE", s);
    }

    @Says(in = "Promise 8", words = UP_TO_THE_OTHERS)
    static void spanEndsTheWays() {
        SpanRows s = withWays();
        due("span(3, 2, 2)", s.span(3, 2, 2), true);
        dueGone("span() of a name that is not labelled", s);
        SpanRows wider = withWays();
        due("span(0, 0, 9)", wider.span(0, 0, 9), true);
        dueGone("span() that tells nothing new", wider);
        SpanRows known = withWays();
        due("span(2, 2, 2)", known.span(2, 2, 2), true);
        dueGone("span() of a number", known);
    }

    @Says(in = "Promise 8", words = UP_TO_THE_OTHERS)
    static void spanThatIsRefusedLeavesTheWays() {
        SpanRows s = withWays();
        due("span(0, 3, 4)", s.span(0, 3, 4), false);
        dueThere("span() beside the span", s);
        due("span(0, 2, 1)", s.span(0, 2, 1), false);
        dueThere("span() with high below low", s);
        due("span(2, 0, 1)", s.span(2, 0, 1), false);
        dueThere("span() beside the number", s);
        due("span(4, 0, 1)", s.span(4, 0, 1), false);
        dueThere("span() of no name", s);
    }

    @Says(in = "Promise 8", words = UP_TO_THE_OTHERS)
    static void giveEndsTheWays() {
        SpanRows s = withWays();
        due("give(3, 1)", s.give(3, 1), true);
        dueGone("give() to a name that is not labelled", s);
        SpanRows again = withWays();
        due("give(2, 2)", again.give(2, 2), true);
        dueGone("give() of the number that it has", again);
    }

    @Says(in = "Promise 8", words = UP_TO_THE_OTHERS)
    static void giveThatIsRefusedLeavesTheWays() {
        SpanRows s = withSpans(4, 1, 2);
        s.give(2, 2);
        keepOf(s, 1, 1, 3);
        labelOf(s, 0, 1);
        due("give(0, 3)", s.give(0, 3), false);
        dueThere("give() beside the span", s);
        due("give(2, 1)", s.give(2, 1), false);
        dueThere("give() of another number", s);
        due("give(3, 2)", s.give(3, 2), false);
        dueThere("give() against what is kept", s);
        due("give(4, 1)", s.give(4, 1), false);
        dueThere("give() to no name", s);
    }

    @Says(in = "Promise 8", words = UP_TO_THE_OTHERS)
    static void equalEndsTheWays() {
        SpanRows s = withWays();
        due("equal(2, 3)", s.equal(2, 3), true);
        dueGone("equal() of names that are not labelled", s);
        SpanRows itself = withWays();
        due("equal(2, 2)", itself.equal(2, 2), true);
        dueGone("equal() of a name and itself", itself);
    }

    @Says(in = "Promise 8", words = UP_TO_THE_OTHERS)
    static void equalThatIsRefusedLeavesTheWays() {
        SpanRows s = withSpans(4, 1, 2);
        s.give(2, 2);
        s.span(3, 1, 1);
        labelOf(s, 0, 1);
        due("equal(2, 3)", s.equal(2, 3), false);
        dueThere("equal() that fails", s);
        due("equal(0, 4)", s.equal(0, 4), false);
        dueThere("equal() of no such two", s);
    }

    @Says(in = "Promise 8", words = UP_TO_THE_OTHERS)
    static void takeEndsTheWays() {
        SpanRows s = withWays();
        due("take(1)", s.take(1), true);
        dueGone("take()", s);
        SpanRows nothing = new SpanRows();
        nothing.label();
        due("take(0) where none is free", nothing.take(0), true);
        due("count(4)", nothing.count(4), 0);
        due("take(0) once more", nothing.take(0), false);
    }

    @Says(in = "Promise 8", words = UP_TO_THE_OTHERS)
    static void takeThatIsRefusedLeavesTheWays() {
        SpanRows s = withWays();
        due("take(4)", s.take(4), false);
        dueThere("take() behind the last way", s);
        due("take(-1)", s.take(-1), false);
        dueThere("take(-1)", s);
    }

    @Says(in = "Promise 8", words = UP_TO_THE_OTHERS)
    static void backEndsTheWays() {
        SpanRows s = withWays();
        due("back()", s.back(), 0);
        dueGone("back()", s);
        SpanRows early = withSpans(2, 1, 2);
        labelOf(early, 0, 1);
        early.mark();
        due("back()", early.back(), 0);
        dueGone("back() to a mark behind label()", early);
    }

    @Says(in = "Promise 8", words = UP_TO_THE_OTHERS)
    static void backThatIsRefusedLeavesTheWays() {
        SpanRows s = withSpans(2, 1, 2);
        labelOf(s, 0, 1);
        due("back()", s.back(), NONE);
        dueThere("back() NONE", s);
    }

    @Says(in = "Promise 8", words = "The ways are there up to")
    static void putAndMarkLeaveTheWays() {
        SpanRows s = withWays();
        due("put(0, 1)", s.put(0, 1), 1);
        dueThere("put()", s);
        due("put(4, 1)", s.put(4, 1), NONE);
        dueThere("put() NONE", s);
        due("mark()", s.mark(), 2);
        dueThere("mark()", s);
        SpanRows full = withMarks(2, 40);
        full.span(0, 1, 2);
        full.span(1, 1, 2);
        labelOf(full, 0, 1);
        due("mark()", full.mark(), NONE);
        dueThere("mark() NONE", full);
        due("take(3)", full.take(3), true);
        dueNumber(full, 1, 2);
    }

    @Says(in = "Promise 9", words = "Of the ways: the number of the j-th free name in the i-th")
    static void wayAnswersForTheFirstAndTheLast() {
        SpanRows s = withNames(2);
        s.span(0, LEAST, LEAST + 1);
        s.span(1, GREATEST - 1, GREATEST);
        due("label()", labelOf(s, 1, 0), 4);
        dueWay(s, 0, GREATEST - 1, LEAST);
        dueWay(s, 1, GREATEST - 1, LEAST + 1);
        dueWay(s, 2, GREATEST, LEAST);
        dueWay(s, 3, GREATEST, LEAST + 1);
    }

    @Says(in = "Promise 9", words = "Of the ways: the number of the j-th free name in the i-th")
    static void wayCountsFreeNamesAlone() {
        SpanRows s = withNumbers(9, 9);
        s.name();
        s.span(2, 5, 5);
        due("label()", labelOf(s, 0, 1, 2), 1);
        due("way(0, 0)", s.way(0, 0), 5);
        due("way(0, 2)", s.way(0, 2), 0);
    }

    @Says(in = "Promise 9", words = "0 if there is none such")
    static void wayOfNoSuchWayIs0() {
        due("way(0, 0) of a new object", new SpanRows().way(0, 0), 0);
        SpanRows s = withSpans(1, 1, 3);
        labelOf(s, 0);
        due("way(2, 0)", s.way(2, 0), 3);
        for (int i : notBelow(3)) {
            due("way(" + i + ", 0)", s.way(i, 0), 0);
        }
    }

    @Says(in = "Promise 9", words = "0 if there is none such")
    static void wayOfNoSuchNameIs0() {
        SpanRows s = withSpans(3, 1, 3);
        due("label() of three", labelOf(s, 0, 1, 2), 27);
        due("way(1, 2)", s.way(1, 2), 2);
        due("label() of two", labelOf(s, 0, 1), 9);
        due("way(1, 1)", s.way(1, 1), 2);
        for (int j : notBelow(2)) {
            due("way(1, " + j + ")", s.way(1, j), 0);
        }
        due("way(0, 8)", s.way(0, 8), 0);
    }

    @Says(in = "Promise 9", words = "0 if there is none such")
    static void wayOfEightNamesHasNoNinth() {
        SpanRows s = withSpans(7, 1, 1);
        s.name();
        s.span(7, 1, 2);
        due("label()", labelOf(s, 0, 1, 2, 3, 4, 5, 6, 7), 2);
        due("way(1, 7)", s.way(1, 7), 2);
        due("way(0, 8)", s.way(0, 8), 0);
        due("way(1, -1)", s.way(1, -1), 0);
    }

    @Says(in = "Promise 9", words = "0 if there is none such")
    static void wayOfALabelWithoutWaysIs0() {
        SpanRows s = withSpans(1, 1, 3);
        labelOf(s, 0);
        keepOf(s, 0, 0, 0);
        due("label()", labelOf(s, 0), 0);
        due("way(0, 0)", s.way(0, 0), 0);
    }

    @Says(in = "Promise 10", words = "The names get the numbers of the i-th way: true")
    static void takeOfTheFirstAndOfTheLastWay() {
        SpanRows first = withWays();
        due("take(0)", first.take(0), true);
        dueNumber(first, 0, 1);
        dueNumber(first, 1, 1);
        dueSpan(first, 3, 1, 2);
        SpanRows last = withWays();
        due("take(3)", last.take(3), true);
        dueNumber(last, 0, 2);
        dueNumber(last, 1, 2);
    }

    @Says(in = "Promise 10", words = "The names get the numbers of the i-th way: true")
    static void takeGivesTheNumberToAllThatAreOne() {
        SpanRows s = withSpans(3, LEAST, LEAST + 1);
        s.equal(0, 2);
        labelOf(s, 2);
        due("take(1)", s.take(1), true);
        dueNumber(s, 0, LEAST + 1);
        dueNumber(s, 2, LEAST + 1);
        due("about(1, 0)", s.about(1, 0), 1);
    }

    @Says(in = "Promise 10", words = "The names get the numbers of the i-th way: true")
    static void takeWhereNoneIsFree() {
        SpanRows s = withNumbers(4);
        labelOf(s, 0);
        due("take(0)", s.take(0), true);
        dueNumber(s, 0, 4);
    }

    @Says(in = "Promise 10", words = "false if there is none such")
    static void takeOfNoSuchWayIsFalse() {
        due("take(0) of a new object", new SpanRows().take(0), false);
        SpanRows s = withWays();
        String before = picture(s);
        for (int i : notBelow(4)) {
            due("take(" + i + ")", s.take(i), false);
        }
        dueSame("take() of no such way", picture(s), before);
        due("take(3)", s.take(3), true);
    }

    @Says(in = "Promise 10", words = "false if there is none such")
    static void takeOfALabelWithoutWaysIsFalse() {
        SpanRows s = withSpans(1, 1, 3);
        keepOf(s, 0, 0, 0);
        due("label()", labelOf(s, 0), 0);
        due("take(0)", s.take(0), false);
        dueSpan(s, 0, 1, 3);
    }
}
