/** Boundary cases of promise 8: what is tried, and what stops it. */
final class LabelBoundaries extends Checks {
    private static final int[] EIGHT = {0, 1, 2, 3, 4, 5, 6, 7};
    private static final int[] NINE = {0, 1, 2, 3, 4, 5, 6, 7, 8};

    private LabelBoundaries() {
    }

    private static void dueNoWays(SpanRows s) {
        due("count(4)", s.count(4), 0);
        due("way(0, 0)", s.way(0, 0), 0);
        due("take(0)", s.take(0), false);
    }

    /** An object whose name 0 lies in low .. high and is not below least. */
    private static SpanRows atLeast(long least, long low, long high) {
        SpanRows s = withSpans(1, low, high);
        keepAtLeast(s, 0, least);
        return s;
    }

    @Says(in = "Promise 8", words = "The row, taken, is labelled: its free names")
    static void namesWithNumbersAreNotTried() {
        SpanRows s = withSpans(3, 1, 2);
        s.give(0, 1);
        s.give(2, 2);
        due("label()", labelOf(s, 0, 1, 2), 2);
        due("count(5)", s.count(5), 1);
        due("count(6)", s.count(6), 2);
        dueWay(s, 1, 2);
    }

    @Says(in = "Promise 8", words = "The row, taken, is labelled: its free names")
    static void namesOutsideTheRowAreNotTried() {
        SpanRows s = withSpans(3, 1, 2);
        due("label()", labelOf(s, 1), 2);
        due("count(5)", s.count(5), 1);
        due("about(0, 4)", s.about(0, 4), 0);
        due("about(2, 4)", s.about(2, 4), 0);
    }

    @Says(in = "Promise 8", words = "its free names")
    static void labelGivesNoNumbers() {
        SpanRows s = withSpans(2, 1, 2);
        keepOf(s, 1, 3, 0, 1);
        due("label() with ways", labelOf(s, 0, 1), 2);
        dueSpan(s, 0, 1, 2);
        dueSpan(s, 1, 1, 2);
        s.span(0, 2, 2);
        s.span(1, 2, 2);
        due("label() without ways", labelOf(s, 0, 1), 0);
        dueSpan(s, 1, 2, 2);
        due("kept(0, 2)", s.kept(0, 2), 2);
        SpanRows wide = withSpans(2, LEAST, GREATEST);
        due("label() -4", labelOf(wide, 0, 1), -4);
        dueSpan(wide, 0, LEAST, GREATEST);
        dueSpan(wide, 1, LEAST, GREATEST);
        keepOf(wide, 1, GREATEST, 1);
        due("label() -3", labelOf(wide, 0, 1), -3);
        dueSpan(wide, 0, LEAST, GREATEST);
        dueSpan(wide, 1, LEAST, GREATEST);
    }

    @Says(in = "Promise 8", words = "the first ones of those that are one")
    static void namesThatAreOneAreTriedAtTheFirstOfThem() {
        SpanRows s = withNames(4);
        s.span(0, 0, 0);
        s.span(1, 10, 11);
        s.span(2, 20, 21);
        s.equal(1, 3);
        due("label()", labelOf(s, 3, 0, 2, 1), 4);
        due("count(5)", s.count(5), 3);
        due("count(6)", s.count(6), 2 + 2 + 4);
        dueWay(s, 0, 10, 0, 20);
        dueWay(s, 1, 10, 0, 21);
        dueWay(s, 2, 11, 0, 20);
    }

    @Says(in = "Promise 8", words = "the first ones of those that are one")
    static void oneNameIn32PlacesIsTriedOnce() {
        SpanRows s = withSpans(1, 1, 3);
        putTimes(s, 0, 32);
        due("label()", s.label(), 3);
        due("count(5)", s.count(5), 1);
        due("count(6)", s.count(6), 3);
    }

    @Says(in = "Promise 8", words = "in the order of the row")
    static void theRowOrdersNotTheNames() {
        SpanRows s = withNames(3);
        s.span(0, 0, 1);
        s.span(1, 10, 11);
        s.span(2, 20, 21);
        due("label()", labelOf(s, 2, 0, 1), 8);
        dueWay(s, 0, 20, 0, 10);
        dueWay(s, 1, 20, 0, 11);
        dueWay(s, 2, 20, 1, 10);
        dueWay(s, 4, 21, 0, 10);
        dueWay(s, 7, 21, 1, 11);
    }

    @Says(in = "Promise 8", words = "the first one with each number of its span, the least first")
    static void eachNumberFromTheLeastToTheGreatest() {
        SpanRows s = withSpans(1, -1, 1);
        due("label()", labelOf(s, 0), 3);
        dueWay(s, 0, -1);
        dueWay(s, 1, 0);
        dueWay(s, 2, 1);
    }

    @Says(in = "Promise 8", words = "the first one with each number of its span, the least first")
    static void spanOfOneNumberIsTriedOnce() {
        SpanRows s = withSpans(1, 7, 7);
        due("label()", labelOf(s, 0), 1);
        due("count(6)", s.count(6), 1);
        dueWay(s, 0, 7);
    }

    @Says(in = "Promise 8", words = "the first one with each number of its span, the least first")
    static void spanUpToTheGreatestEndsThere() {
        SpanRows s = withSpans(1, GREATEST - 2, GREATEST);
        due("label()", labelOf(s, 0), 3);
        due("count(6)", s.count(6), 3);
        dueWay(s, 0, GREATEST - 2);
        dueWay(s, 2, GREATEST);
        SpanRows one = withSpans(1, GREATEST, GREATEST);
        due("label() of the greatest alone", labelOf(one, 0), 1);
        due("count(6)", one.count(6), 1);
    }

    @Says(in = "Promise 8", words = "the first one with each number of its span, the least first")
    static void spanFromTheLeastBeginsThere() {
        SpanRows s = withSpans(1, LEAST, LEAST + 2);
        due("label()", labelOf(s, 0), 3);
        dueWay(s, 0, LEAST);
        dueWay(s, 2, LEAST + 2);
    }

    @Says(in = "Promise 8", words = "the first one with each number of its span, the least first")
    static void spanOfAll64BitsIsTriedFromTheLeast() {
        SpanRows s = withSpans(1, LEAST, GREATEST);
        keepOf(s, 0, LEAST + 1, 0);
        due("label(), two are good, but far more are tried", labelOf(s, 0), -3);
        due("count(6)", s.count(6), 5000);
        SpanRows all = withSpans(1, LEAST, GREATEST);
        due("label(), all are good", labelOf(all, 0), -4);
        due("count(6)", all.count(6), 201);
    }

    @Says(in = "Promise 8", words = "and behind each that is good the next one likewise")
    static void nextOneIsTriedOnlyBehindAGoodOne() {
        SpanRows s = withSpans(2, 1, 3);
        keepOf(s, 1, 2, 0);
        due("label()", labelOf(s, 0, 1), 3);
        due("count(6)", s.count(6), 3 + 3);
        due("label() the other way round", labelOf(s, 1, 0), 3);
        due("count(6)", s.count(6), 3 + 3 * 3);
    }

    @Says(in = "Promise 8", words = "a number is good, if all that is kept, and all of whose names have numbers by that, is so")
    static void rowsWithAFreeNameOutsideTheLabelAreNotLookedAt() {
        SpanRows s = withSpans(3, 1, 3);
        keepOf(s, 0, -100, 0, 2);
        due("label(), name 2 stays free", labelOf(s, 0, 1), 9);
        s.give(2, 1);
        due("label(), name 2 has a number", labelOf(s, 0, 1), 0);
        due("count(6)", s.count(6), 3);
    }

    @Says(in = "Promise 8", words = "a number is good, if all that is kept, and all of whose names have numbers by that, is so")
    static void allThatIsKeptIsLookedAt() {
        SpanRows s = withKept(1, 58);
        s.span(0, 1, 9);
        keepOf(s, 0, 5, 0);
        keepAtLeast(s, 0, 4);
        due("count(1)", s.count(1), 60);
        due("label()", labelOf(s, 0), 2);
        dueWay(s, 0, 4);
        dueWay(s, 1, 5);
    }

    @Says(in = "Promise 8", words = "a number is good, if all that is kept, and all of whose names have numbers by that, is so")
    static void oneNumberStandsForAllThatAreOne() {
        SpanRows s = withSpans(3, 0, 9);
        s.equal(0, 2);
        keepOf(s, 1, 8, 0, 2);
        due("label()", labelOf(s, 2), 1);
        dueWay(s, 0, 4);
    }

    @Says(in = "Promise 8", words = "Each number that is tried counts.")
    static void numbersThatAreNotGoodCount() {
        SpanRows s = withSpans(2, 1, 4);
        keepOf(s, 2, 0, 0, 1);
        due("label()", labelOf(s, 0, 1), 12);
        due("count(6)", s.count(6), 4 + 16);
        keepOf(s, 0, 0, 0);
        due("label() without ways", labelOf(s, 0, 1), 0);
        due("count(6)", s.count(6), 4);
    }

    @Says(in = "Promise 8", words = "The WAYS are the rows of numbers that are good up to the last one")
    static void rowsThatAreNotGoodUpToTheLastOneAreNoWays() {
        SpanRows s = withSpans(3, 1, 2);
        keepOf(s, 0, 3, 0, 1, 2);
        due("label()", labelOf(s, 0, 1, 2), 1);
        dueWay(s, 0, 1, 1, 1);
        keepOf(s, 1, 2, 2);
        due("label(), the last one is never good", labelOf(s, 0, 1, 2), 0);
        due("count(4)", s.count(4), 0);
        due("count(5)", s.count(5), 3);
    }

    @Says(in = "Promise 8", words = "(one way, if none is free)")
    static void emptyRowHasOneWay() {
        SpanRows s = new SpanRows();
        due("label()", s.label(), 1);
        due("count(4)", s.count(4), 1);
        due("count(5)", s.count(5), 0);
        due("count(6)", s.count(6), 0);
        due("way(0, 0)", s.way(0, 0), 0);
    }

    @Says(in = "Promise 8", words = "(one way, if none is free)")
    static void rowOfNumbersHasOneWay() {
        SpanRows s = withNumbers(3, 4);
        putTimes(s, 0, 16);
        putTimes(s, 1, 16);
        due("label()", s.label(), 1);
        due("count(4)", s.count(4), 1);
        due("count(5)", s.count(5), 0);
        due("count(6)", s.count(6), 0);
    }

    @Says(in = "Promise 8", words = "NONE if a free one has no span")
    static void freeOneWithoutASpanIsNone() {
        SpanRows s = withSpans(2, 1, 2);
        s.name();
        s.name();
        s.give(3, 9);
        due("label(), it stands last", labelOf(s, 0, 1, 2), NONE);
        dueNoWays(s);
        due("label(), it stands first", labelOf(s, 2, 0, 1), NONE);
        due("label(), it stands alone", labelOf(s, 2), NONE);
        due("count(6)", s.count(6), 0);
        due("label() of a number without a span", labelOf(s, 3, 0, 1), 4);
    }

    @Says(in = "Promise 8", words = "NONE if a free one has no span")
    static void spanOfOneThatIsOneWithItIsASpan() {
        SpanRows s = withNames(2);
        s.span(1, 1, 2);
        s.equal(0, 1);
        due("label()", labelOf(s, 0), 2);
        SpanRows widest = withSpans(1, LEAST, GREATEST);
        due("label(), all of 64 bits is a span", labelOf(widest, 0), -4);
    }

    @Says(in = "Promise 8", words = "else -2 if more than 8 are free")
    static void eightMayBeFree() {
        SpanRows s = withSpans(8, 0, 0);
        due("label() of 8", labelOf(s, EIGHT), 1);
        due("count(5)", s.count(5), 8);
        due("count(6)", s.count(6), 8);
    }

    @Says(in = "Promise 8", words = "else -2 if more than 8 are free")
    static void nineMayNotBeFree() {
        SpanRows s = withSpans(32, 0, 0);
        due("label() of 9", labelOf(s, NINE), -2);
        dueNoWays(s);
        due("count(5)", s.count(5), 0);
        due("count(6)", s.count(6), 0);
        for (int x = 0; x < 32; x++) {
            s.put(x, 1);
        }
        due("label() of 32", s.label(), -2);
    }

    @Says(in = "Promise 8", words = "else -2 if more than 8 are free")
    static void namesWithNumbersAndThoseThatAreOneAreNotCountedAmongThe8() {
        SpanRows s = withSpans(9, 0, 0);
        s.equal(2, 8);
        due("label(), two are one", labelOf(s, NINE), 1);
        SpanRows t = withSpans(9, 0, 0);
        t.give(4, 0);
        due("label(), one has a number", labelOf(t, NINE), 1);
        SpanRows u = withSpans(8, 0, 0);
        putAll(u, EIGHT);
        putAll(u, EIGHT);
        due("label(), each name twice", u.label(), 1);
    }

    @Says(in = "Promise 8", words = "NONE if a free one has no span; else -2 if more than 8 are free")
    static void noneComesBeforeMinus2() {
        SpanRows s = withSpans(9, 0, 0);
        s.name();
        due("label(), 10 are free, the last without a span", labelOf(s, 0, 1, 2, 3, 4, 5, 6, 7, 8, 9), NONE);
        due("label(), 10 are free, the first without a span", labelOf(s, 9, 0, 1, 2, 3, 4, 5, 6, 7, 8), NONE);
    }

    @Says(in = "Promise 8", words = "NONE if a free one has no span; else -2 if more than 8 are free; else -3")
    static void noneAndMinus2ComeBeforeAnyNumberIsTried() {
        SpanRows s = withSpans(9, LEAST, GREATEST);
        s.name();
        due("label(), 9 wide spans", labelOf(s, NINE), -2);
        due("count(6)", s.count(6), 0);
        due("label(), a wide span and none", labelOf(s, 0, 9), NONE);
        due("count(6)", s.count(6), 0);
    }

    @Says(in = "Promise 8", words = "else -3 when a number more than 5000 would be tried")
    static void fiveThousandMayBeTried() {
        SpanRows s = withSpans(1, 1, 5000);
        keepOf(s, 0, 3, 0);
        due("label()", labelOf(s, 0), 3);
        due("count(6)", s.count(6), 5000);
        dueWay(s, 2, 3);
        SpanRows none = withSpans(1, 1, 5000);
        keepOf(none, 0, 0, 0);
        due("label() without ways", labelOf(none, 0), 0);
        due("count(6)", none.count(6), 5000);
    }

    @Says(in = "Promise 8", words = "else -3 when a number more than 5000 would be tried")
    static void fiveThousandAndOneMayNotBeTried() {
        SpanRows s = withSpans(1, 1, 5001);
        keepOf(s, 0, 3, 0);
        due("label()", labelOf(s, 0), -3);
        due("count(6)", s.count(6), 5000);
        due("count(5)", s.count(5), 0);
        dueNoWays(s);
    }

    @Says(in = "Promise 8", words = "else -3 when a number more than 5000 would be tried")
    static void numbersOfAllNamesCountTogether() {
        SpanRows s = withNames(3);
        s.span(0, 1, 50);
        s.span(1, 1, 99);
        s.span(2, 1, 51);
        keepOf(s, 0, 2, 0, 1);
        keepOf(s, 0, 2, 2, 1);
        due("label(), 50 and 50 times 99", labelOf(s, 0, 1), 1);
        due("count(6)", s.count(6), 5000);
        due("label(), the first one has one more", labelOf(s, 2, 1), -3);
        due("count(6)", s.count(6), 5000);
        SpanRows t = withNames(2);
        t.span(0, 1, 50);
        t.span(1, 1, 100);
        keepOf(t, 0, 2, 0, 1);
        due("label(), the last one has one more", labelOf(t, 0, 1), -3);
        due("count(6)", t.count(6), 5000);
    }

    @Says(in = "Promise 8", words = "-4 with the 201st way")
    static void twoHundredWaysMayBe() {
        SpanRows s = withSpans(1, 1, 200);
        due("label()", labelOf(s, 0), 200);
        due("count(4)", s.count(4), 200);
        dueWay(s, 0, 1);
        dueWay(s, 199, 200);
        due("way(200, 0)", s.way(200, 0), 0);
        due("take(199)", s.take(199), true);
        dueNumber(s, 0, 200);
    }

    @Says(in = "Promise 8", words = "-4 with the 201st way")
    static void twoHundredWaysOfEightNamesMayBe() {
        SpanRows s = withSpans(6, 1, 1);
        s.name();
        s.name();
        s.span(6, 1, 10);
        s.span(7, 1, 20);
        due("label()", labelOf(s, EIGHT), 200);
        dueWay(s, 0, 1, 1, 1, 1, 1, 1, 1, 1);
        dueWay(s, 20, 1, 1, 1, 1, 1, 1, 2, 1);
        dueWay(s, 199, 1, 1, 1, 1, 1, 1, 10, 20);
    }

    @Says(in = "Promise 8", words = "-4 with the 201st way")
    static void twoHundredAndOneWaysMayNotBe() {
        SpanRows s = withSpans(1, 1, 201);
        due("label()", labelOf(s, 0), -4);
        due("count(6)", s.count(6), 201);
        due("count(5)", s.count(5), 0);
        dueNoWays(s);
        SpanRows t = withNames(2);
        t.span(0, 1, 11);
        t.span(1, 1, 20);
        due("label() of two names", labelOf(t, 0, 1), -4);
        due("count(6)", t.count(6), 11 + 201);
    }

    @Says(in = "Promise 8", words = "whichever is come to first")
    static void the201stWayWithThe5000thNumberIsMinus4() {
        SpanRows s = atLeast(4800, 1, 5001);
        due("label()", labelOf(s, 0), -4);
        due("count(6)", s.count(6), 5000);
    }

    @Says(in = "Promise 8", words = "whichever is come to first")
    static void the201stWayWithThe5001stNumberIsMinus3() {
        SpanRows s = atLeast(4801, 1, 5001);
        due("label()", labelOf(s, 0), -3);
        due("count(6)", s.count(6), 5000);
        SpanRows both = atLeast(4801, 1, 5000);
        due("label() of 5000 numbers and 200 ways", labelOf(both, 0), 200);
        due("count(6)", both.count(6), 5000);
    }

    @Says(in = "Promise 8", words = "(with each of these there are no ways)")
    static void nothingIsLeftOfAnEarlierLabel() {
        SpanRows s = withSpans(10, 1, 2);
        int free = s.name();
        int wide = s.name();
        s.span(wide, 1, 9999);
        labelOf(s, 0, 1);
        due("label() NONE", labelOf(s, free), NONE);
        dueNoWays(s);
        labelOf(s, 0, 1);
        due("label() -2", labelOf(s, NINE), -2);
        dueNoWays(s);
        labelOf(s, 0, 1);
        due("label() -4", labelOf(s, wide), -4);
        dueNoWays(s);
        keepOf(s, 0, 0, wide);
        labelOf(s, 0, 1);
        due("label() -3", labelOf(s, wide), -3);
        dueNoWays(s);
        dueSpan(s, 0, 1, 2);
    }
}
