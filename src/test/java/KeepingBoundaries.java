/** Boundary cases of promises 6 and 7: the row, and what is kept. */
final class KeepingBoundaries extends Checks {
    private KeepingBoundaries() {
    }

    @Says(in = "Promise 6", words = "A name with a factor comes behind the row: how many it has")
    static void putAnswersHowManyTheRowHas() {
        SpanRows s = withNames(64);
        due("put(0, 0)", s.put(0, 0), 1);
        due("put(63, least)", s.put(63, LEAST), 2);
        due("put(0, greatest), the same name", s.put(0, GREATEST), 3);
        due("count(3)", s.count(3), 3);
    }

    @Says(in = "Promise 6", words = "A name with a factor comes behind the row: how many it has")
    static void putComesBehindTheRow() {
        SpanRows s = withNames(2);
        s.span(0, 3, 3);
        s.span(1, 5, 5);
        s.put(1, 1);
        s.put(0, 1);
        due("label()", s.label(), 1);
        dueWay(s, 0, 5, 3);
    }

    @Says(in = "Promise 6", words = "NONE if there is no such name")
    static void putOfNoNameIsNone() {
        due("put(0, 1) of a new object", new SpanRows().put(0, 1), NONE);
        SpanRows s = withNames(2);
        s.put(1, 1);
        for (int x : notBelow(2)) {
            due("put(" + x + ", 1)", s.put(x, 1), NONE);
        }
        due("count(3)", s.count(3), 1);
        due("put(64, 1) with 64 names", withNames(64).put(64, 1), NONE);
    }

    @Says(in = "Promise 6", words = "or there are 32")
    static void the33rdPutIsNone() {
        SpanRows s = withNumbers(1);
        putTimes(s, 0, 31);
        due("put() number 32", s.put(0, 1), 32);
        due("put() number 33", s.put(0, 100), NONE);
        due("put() number 34", s.put(0, 100), NONE);
        due("count(3)", s.count(3), 32);
        due("the sum is that of 32", s.keep(1, 32), 1);
        due("put() into the row that was taken", s.put(0, 1), 1);
    }

    @Says(in = "Promise 7", words = "The row, taken, is kept: 1")
    static void rowsOf0And1And32NamesAreKept() {
        SpanRows s = withNames(1);
        due("keep() of none", s.keep(2, 0), 1);
        due("keep() of one", keepOf(s, 1, 5, 0), 1);
        putTimes(s, 0, 32);
        due("keep() of 32", s.keep(0, 160), 1);
        due("kept(0, 1)", s.kept(0, 1), 0);
        due("kept(1, 1)", s.kept(1, 1), 1);
        due("kept(2, 1)", s.kept(2, 1), 32);
        due("count(3)", s.count(3), 0);
        due("give(0, 6)", s.give(0, 6), false);
        due("give(0, 5)", s.give(0, 5), true);
    }

    @Says(in = "Promise 7", words = "The row, taken, is kept: 1")
    static void whatIsKeptStaysWhenTheRowIsFilledAnew() {
        SpanRows s = withNames(2);
        s.put(0, 2);
        s.keep(1, 10);
        s.put(1, 7);
        s.put(1, 7);
        due("kept(0, 1)", s.kept(0, 1), 1);
        due("give(0, 4)", s.give(0, 4), false);
        due("give(0, 5)", s.give(0, 5), true);
    }

    @Says(in = "Promise 7", words = "0 if it FAILS (all its names have numbers, and it isn't so)")
    static void rowThatIsNotSoIsNotKept() {
        SpanRows s = withNumbers(3, 4);
        due("7 at most 6", keepOf(s, 0, 6, 0, 1), 0);
        due("7 is 8", keepOf(s, 1, 8, 0, 1), 0);
        due("3 and 3 unlike", keepOf(s, 2, 0, 0, 0), 0);
        due("count(1)", s.count(1), 0);
    }

    @Says(in = "Promise 7", words = "0 if it FAILS (all its names have numbers, and it isn't so)")
    static void rowOfNoNamesThatIsNotSoIsNotKept() {
        SpanRows s = new SpanRows();
        due("0 at most -1", s.keep(0, -1), 0);
        due("0 is 1", s.keep(1, 1), 0);
        due("count(1)", s.count(1), 0);
    }

    @Says(in = "Promise 7", words = "0 if it FAILS (all its names have numbers, and it isn't so)")
    static void rowWithOneFreeNameIsKept() {
        SpanRows s = withNumbers(3, 3);
        s.name();
        due("free one last", keepOf(s, 2, 0, 0, 1, 2), 1);
        due("free one first", keepOf(s, 2, 0, 2, 0, 1), 1);
        s.span(2, 5, 5);
        due("a span of one number is free", keepOf(s, 1, 6, 2), 1);
        due("count(1)", s.count(1), 3);
    }

    @Says(in = "Promise 7", words = "NONE if there is no such kind")
    static void keepOfNoKindIsNone() {
        SpanRows s = withNames(1);
        for (int kind : new int[] {-1, 3, 4, Integer.MIN_VALUE, Integer.MAX_VALUE}) {
            due("keep(" + kind + ", 0)", keepOf(s, kind, 0, 0), NONE);
        }
        due("count(1)", s.count(1), 0);
        due("count(3)", s.count(3), 0);
        s.give(0, 1);
        due("keep(3, 0), that would not be so", keepOf(s, 3, 0, 0), NONE);
    }

    @Says(in = "Promise 7", words = "or 60 are kept")
    static void the61stKeepIsNone() {
        SpanRows s = withKept(1, 59);
        due("keep() number 60", keepOf(s, 0, 9, 0), 1);
        due("keep() number 61", keepOf(s, 0, 5, 0), NONE);
        due("count(1)", s.count(1), 60);
        due("count(3)", s.count(3), 0);
        due("give(0, 9), the 60th is kept, the 61st is not", s.give(0, 9), true);
        due("keep() number 61 that isn't so", keepOf(s, 1, 5, 0), NONE);
    }

    @Says(in = "Promise 7", words = "or 60 are kept")
    static void rowsThatWentOrFailedDoNotCountAmongThe60() {
        SpanRows s = withKept(0, 59);
        due("keep() that fails with 59 kept", s.keep(1, 1), 0);
        s.mark();
        due("keep() number 60", s.keep(2, 0), 1);
        due("keep() number 61", s.keep(2, 0), NONE);
        s.back();
        due("keep() number 60 again", s.keep(2, 0), 1);
        due("keep() number 61 again", s.keep(2, 0), NONE);
    }
}
