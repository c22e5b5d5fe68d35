/** Boundary cases of promises 13 to 16: what is asked. */
final class AskingBoundaries extends Checks {
    private AskingBoundaries() {
    }

    @Says(in = "Promise 13", words = "what 0: 0 free without a span, 1 with one, 2 it has a number")
    static void aboutFreeSpanAndNumber() {
        SpanRows s = withNames(5);
        s.span(1, LEAST, GREATEST);
        s.span(2, 5, 5);
        s.give(3, 0);
        s.span(4, 0, 9);
        s.give(4, 9);
        due("about(0, 0)", s.about(0, 0), 0);
        due("about(1, 0), the widest span", s.about(1, 0), 1);
        due("about(2, 0), the narrowest span", s.about(2, 0), 1);
        due("about(3, 0), the number 0", s.about(3, 0), 2);
        due("about(4, 0), a span and a number", s.about(4, 0), 2);
    }

    @Says(in = "Promise 13", words = "1: the least name that is one with it (perhaps itself)")
    static void aboutTheLeast() {
        SpanRows s = withNames(64);
        due("about(0, 1)", s.about(0, 1), 0);
        due("about(63, 1), itself", s.about(63, 1), 63);
        s.equal(63, 40);
        due("about(63, 1)", s.about(63, 1), 40);
        s.equal(50, 63);
        due("about(50, 1)", s.about(50, 1), 40);
        s.equal(50, 7);
        due("about(63, 1)", s.about(63, 1), 7);
        due("about(40, 1)", s.about(40, 1), 7);
        due("about(7, 1)", s.about(7, 1), 7);
    }

    @Says(in = "Promise 13", words = "2: how many names are one with it (with itself)")
    static void aboutHowManyAreOne() {
        SpanRows s = withNames(64);
        due("about(5, 2), alone", s.about(5, 2), 1);
        for (int x = 0; x < 64; x++) {
            s.equal(x, 63 - x);
        }
        due("about(5, 2), a pair", s.about(5, 2), 2);
        for (int x = 1; x < 64; x++) {
            s.equal(x, x - 1);
        }
        due("about(0, 2), all", s.about(0, 2), 64);
        due("about(63, 2), all", s.about(63, 2), 64);
    }

    @Says(in = "Promise 13", words = "2: how many names are one with it (with itself)")
    static void namesWithTheSameNumberAreNotOne() {
        SpanRows s = withNumbers(5, 5);
        due("about(0, 2)", s.about(0, 2), 1);
        due("about(1, 1)", s.about(1, 1), 1);
    }

    @Says(in = "Promise 13", words = "3: in how many rows that are kept it stands")
    static void aboutRowsFrom0To60() {
        SpanRows s = withNames(2);
        due("about(0, 3), none", s.about(0, 3), 0);
        s.put(0, 1);
        due("about(0, 3), the row is not kept", s.about(0, 3), 0);
        s.keep(2, 0);
        due("about(0, 3)", s.about(0, 3), 1);
        for (int i = 1; i < 60; i++) {
            keepOf(s, 2, 0, 0);
        }
        keepOf(s, 2, 0, 0);
        due("about(0, 3), all", s.about(0, 3), 60);
        due("about(1, 3), none", s.about(1, 3), 0);
        s.give(0, 3);
        due("about(0, 3), of a number", s.about(0, 3), 60);
    }

    @Says(in = "Promise 13", words = "(it, or one that is one with it; each once)")
    static void aboutRowsCountsEachOnce() {
        SpanRows s = withNames(3);
        keepOf(s, 0, 9, 0, 0, 0);
        keepOf(s, 0, 9, 1);
        keepOf(s, 0, 9, 0, 1);
        due("about(0, 3), thrice in a row", s.about(0, 3), 2);
        due("about(1, 3)", s.about(1, 3), 2);
        s.equal(0, 1);
        due("about(0, 3), two that are one", s.about(0, 3), 3);
        due("about(1, 3), two that are one", s.about(1, 3), 3);
        due("about(2, 3)", s.about(2, 3), 0);
        s.equal(2, 1);
        due("about(2, 3), in no row itself", s.about(2, 3), 3);
    }

    @Says(in = "Promise 13", words = "4: 1 if it is (one with) a free name of the label() whose ways are there")
    static void aboutTheFreeNamesOfLabel() {
        SpanRows s = withSpans(5, 1, 2);
        s.equal(1, 4);
        s.give(2, 1);
        due("about(0, 4) before label()", s.about(0, 4), 0);
        labelOf(s, 4, 2, 0);
        due("about(0, 4)", s.about(0, 4), 1);
        due("about(1, 4), one with 4", s.about(1, 4), 1);
        due("about(2, 4), a number", s.about(2, 4), 0);
        due("about(3, 4), not in the row", s.about(3, 4), 0);
        due("about(4, 4)", s.about(4, 4), 1);
        s.take(0);
        due("about(0, 4) after take()", s.about(0, 4), 0);
    }

    @Says(in = "Promise 13", words = "(also if they are none), else 0")
    static void aboutTheFreeNamesOfALabelWithoutWays() {
        SpanRows s = withSpans(2, 1, 2);
        keepOf(s, 1, 9, 0);
        due("label()", labelOf(s, 0, 1), 0);
        due("about(0, 4)", s.about(0, 4), 1);
        due("about(1, 4), which was not tried", s.about(1, 4), 1);
    }

    @Says(in = "Promise 13", words = "(also if they are none), else 0")
    static void aboutTheFreeNamesOfALabelThatStopped() {
        SpanRows s = withSpans(9, LEAST, GREATEST);
        int x = s.name();
        due("label() NONE", labelOf(s, 0, x), NONE);
        due("about(0, 4) after NONE", s.about(0, 4), 0);
        due("label() -2", labelOf(s, 0, 1, 2, 3, 4, 5, 6, 7, 8), -2);
        due("about(0, 4) after -2", s.about(0, 4), 0);
        due("label() -4", labelOf(s, 0), -4);
        due("about(0, 4) after -4", s.about(0, 4), 0);
        keepOf(s, 1, GREATEST, 0);
        due("label() -3", labelOf(s, 0), -3);
        due("about(0, 4) after -3", s.about(0, 4), 0);
    }

    @Says(in = "Promise 13", words = "NONE if there is no such name")
    static void aboutNoNameIsNone() {
        due("about(0, 0) of a new object", new SpanRows().about(0, 0), NONE);
        SpanRows s = withNames(2);
        for (int x : notBelow(2)) {
            for (int what = -1; what <= 5; what++) {
                due("about(" + x + ", " + what + ")", s.about(x, what), NONE);
            }
        }
        due("about(64, 0) with 64 names", withNames(64).about(64, 0), NONE);
    }

    @Says(in = "Promise 13", words = "or for another what")
    static void aboutAnotherWhatIsNone() {
        SpanRows s = withNames(1);
        due("about(0, 4)", s.about(0, 4), 0);
        for (int what : notBelow(5)) {
            due("about(0, " + what + ")", s.about(0, what), NONE);
        }
    }

    @Says(in = "Promise 14", words = "Of a name its least number (high: its greatest one): its number, or that of its span")
    static void boundOfANumberAndOfASpan() {
        SpanRows s = withNames(3);
        s.span(0, -3, 8);
        dueSpan(s, 0, -3, 8);
        s.give(0, 2);
        dueNumber(s, 0, 2);
        s.give(1, 0);
        dueNumber(s, 1, 0);
        s.span(2, LEAST, LEAST);
        dueSpan(s, 2, LEAST, LEAST);
    }

    @Says(in = "Promise 14", words = "without one the least (the greatest) of 64 bits")
    static void boundWithoutASpan() {
        SpanRows s = withNames(2);
        due("bound(0, false)", s.bound(0, false), -9223372036854775808L);
        due("bound(0, true)", s.bound(0, true), 9223372036854775807L);
        s.equal(0, 1);
        dueFree(s, 1);
    }

    @Says(in = "Promise 14", words = "0 if there is no such name")
    static void boundOfNoNameIs0() {
        SpanRows empty = new SpanRows();
        due("bound(0, false) of a new object", empty.bound(0, false), 0);
        due("bound(0, true) of a new object", empty.bound(0, true), 0);
        SpanRows s = withNumbers(5, 6);
        for (int x : notBelow(2)) {
            due("bound(" + x + ", false)", s.bound(x, false), 0);
            due("bound(" + x + ", true)", s.bound(x, true), 0);
        }
        due("bound(64, true) with 64 names", withNames(64).bound(64, true), 0);
    }

    @Says(in = "Promise 14", words = "0 if there is no such name")
    static void boundOfANameThatWentIs0() {
        SpanRows s = withNames(1);
        s.mark();
        s.name();
        s.give(1, 5);
        s.back();
        due("bound(1, false)", s.bound(1, false), 0);
        due("bound(1, true)", s.bound(1, true), 0);
    }

    @Says(in = "Promise 15", words = "Of the i-th that is kept what 0: its kind")
    static void keptAnswersItsKind() {
        SpanRows s = withNames(1);
        for (int i = 0; i < 60; i++) {
            keepOf(s, i % 3, 9, 0);
        }
        due("kept(0, 0), the first", s.kept(0, 0), 0);
        due("kept(1, 0)", s.kept(1, 0), 1);
        due("kept(59, 0), the last", s.kept(59, 0), 2);
    }

    @Says(in = "Promise 15", words = "1: how many names")
    static void keptAnswersHowManyNames() {
        SpanRows s = withNames(1);
        s.keep(2, 0);
        keepOf(s, 2, 0, 0);
        putTimes(s, 0, 32);
        s.keep(2, 0);
        due("kept(0, 1), none", s.kept(0, 1), 0);
        due("kept(1, 1), one", s.kept(1, 1), 1);
        due("kept(2, 1), one name in 32 places", s.kept(2, 1), 32);
    }

    @Says(in = "Promise 15", words = "2: how many of these are free (each place counts)")
    static void keptAnswersHowManyPlacesAreFree() {
        SpanRows s = withNames(3);
        s.equal(0, 1);
        s.give(2, 5);
        keepOf(s, 0, 99, 0, 0, 1, 2, 2);
        s.keep(2, 0);
        due("kept(0, 2)", s.kept(0, 2), 3);
        due("kept(1, 2), of an empty row", s.kept(1, 2), 0);
        s.span(0, 4, 4);
        due("kept(0, 2), a span of one number", s.kept(0, 2), 3);
        s.give(1, 4);
        due("kept(0, 2), all have numbers", s.kept(0, 2), 0);
        due("kept(0, 1)", s.kept(0, 1), 5);
    }

    @Says(in = "Promise 15", words = "NONE if there is none such")
    static void keptOfNoneSuchIsNone() {
        due("kept(0, 0) of a new object", new SpanRows().kept(0, 0), NONE);
        SpanRows s = withKept(1, 2);
        for (int i : notBelow(2)) {
            for (int what = 0; what <= 2; what++) {
                due("kept(" + i + ", " + what + ")", s.kept(i, what), NONE);
            }
        }
        SpanRows full = withKept(1, 60);
        full.keep(2, 0);
        due("kept(59, 0)", full.kept(59, 0), 2);
        due("kept(60, 0)", full.kept(60, 0), NONE);
    }

    @Says(in = "Promise 15", words = "NONE if there is none such")
    static void keptOfAnotherWhatIsNone() {
        SpanRows s = withKept(1, 1);
        due("kept(0, 2)", s.kept(0, 2), 0);
        for (int what : notBelow(3)) {
            due("kept(0, " + what + ")", s.kept(0, what), NONE);
        }
    }

    @Says(in = "Promise 16", words = "What 0 names")
    static void countOfNames() {
        due("count(0)", new SpanRows().count(0), 0);
        SpanRows s = withNames(65);
        s.equal(0, 1);
        due("count(0), two that are one are two", s.count(0), 64);
    }

    @Says(in = "Promise 16", words = "1 kept")
    static void countOfKept() {
        due("count(1)", new SpanRows().count(1), 0);
        due("count(1)", withKept(0, 61).count(1), 60);
    }

    @Says(in = "Promise 16", words = "2 marks")
    static void countOfMarks() {
        due("count(2)", new SpanRows().count(2), 0);
        due("count(2)", withMarks(0, 41).count(2), 40);
    }

    @Says(in = "Promise 16", words = "3 names of the row")
    static void countOfTheRow() {
        SpanRows s = withNames(1);
        due("count(3)", s.count(3), 0);
        putTimes(s, 0, 33);
        due("count(3), each place", s.count(3), 32);
    }

    @Says(in = "Promise 16", words = "4 ways")
    static void countOfWays() {
        SpanRows s = withSpans(1, 1, 200);
        due("count(4) before label()", s.count(4), 0);
        labelOf(s, 0);
        due("count(4)", s.count(4), 200);
        s.label();
        due("count(4) of an empty row", s.count(4), 1);
        s.span(0, 1, 300);
        due("count(4) after span()", s.count(4), 0);
    }

    @Says(in = "Promise 16", words = "5 free names of the label() whose ways are there")
    static void countOfFreeNames() {
        SpanRows s = withSpans(8, 1, 1);
        due("count(5) before label()", s.count(5), 0);
        labelOf(s, 0, 1, 2, 3, 4, 5, 6, 7);
        due("count(5)", s.count(5), 8);
        s.equal(0, 7);
        due("count(5) after equal()", s.count(5), 0);
        labelOf(s, 0, 7);
        due("count(5), two are one", s.count(5), 1);
    }

    @Says(in = "Promise 16", words = "(also if they are none; else 0)")
    static void countOfFreeNamesWithoutWays() {
        SpanRows s = withSpans(2, 1, 2);
        keepOf(s, 1, 9, 0);
        due("label()", labelOf(s, 0, 1), 0);
        due("count(4)", s.count(4), 0);
        due("count(5)", s.count(5), 2);
        s.name();
        due("count(5) after name()", s.count(5), 0);
    }

    @Says(in = "Promise 16", words = "(also if they are none; else 0)")
    static void countOfFreeNamesOfALabelThatStopped() {
        SpanRows s = withSpans(9, LEAST, GREATEST);
        int x = s.name();
        due("label() NONE", labelOf(s, 0, x), NONE);
        due("count(5) after NONE", s.count(5), 0);
        due("label() -2", labelOf(s, 0, 1, 2, 3, 4, 5, 6, 7, 8), -2);
        due("count(5) after -2", s.count(5), 0);
        due("label() -4", labelOf(s, 0), -4);
        due("count(5) after -4", s.count(5), 0);
        keepOf(s, 1, GREATEST, 0);
        due("label() -3", labelOf(s, 0), -3);
        due("count(5) after -3", s.count(5), 0);
    }

    @Says(in = "Promise 16", words = "6 numbers that the latest label() tried")
    static void countOfNumbersTried() {
        SpanRows s = withSpans(2, 1, 3);
        due("count(6) before label()", s.count(6), 0);
        s.mark();
        labelOf(s, 0, 1);
        due("count(6)", s.count(6), 12);
        s.take(0);
        due("count(6) after take()", s.count(6), 12);
        s.back();
        due("count(6) after back()", s.count(6), 12);
        s.keep(2, 0);
        due("count(6) after keep()", s.count(6), 12);
        s.label();
        due("count(6) of an empty row", s.count(6), 0);
    }

    @Says(in = "Promise 16", words = "(also one that answered -3 or -4")
    static void countOfNumbersTriedByALabelThatStopped() {
        SpanRows s = withSpans(1, 1, 9999);
        due("label() -4", labelOf(s, 0), -4);
        due("count(6) after -4", s.count(6), 201);
        keepOf(s, 0, 0, 0);
        due("label() -3", labelOf(s, 0), -3);
        due("count(6) after -3", s.count(6), 5000);
    }

    @Says(in = "Promise 16", words = "of NONE and -2: 0")
    static void countOfNumbersTriedIs0WhereNoneWas() {
        SpanRows s = withSpans(9, 1, 2);
        int x = s.name();
        labelOf(s, 0);
        due("label() NONE", labelOf(s, 0, x), NONE);
        due("count(6) after NONE", s.count(6), 0);
        labelOf(s, 0);
        due("count(6)", s.count(6), 2);
        due("label() -2", labelOf(s, 0, 1, 2, 3, 4, 5, 6, 7, 8), -2);
        due("count(6) after -2", s.count(6), 0);
    }

    @Says(in = "Promise 16", words = "NONE for another what")
    static void countOfAnotherWhatIsNone() {
        SpanRows s = new SpanRows();
        due("count(6)", s.count(6), 0);
        for (int what : notBelow(7)) {
            due("count(" + what + ")", s.count(what), NONE);
        }
    }
}
