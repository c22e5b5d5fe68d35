/** Boundary cases of promises 11 and 12: marks, and going back to them. */
final class MarkBoundaries extends Checks {
    private MarkBoundaries() {
    }

    @Says(in = "Promise 11", words = "Puts a mark: how many there are")
    static void markAnswersHowManyThereAre() {
        SpanRows s = new SpanRows();
        for (int marks = 1; marks <= 40; marks++) {
            due("mark()", s.mark(), marks);
        }
        due("count(2)", s.count(2), 40);
    }

    @Says(in = "Promise 11", words = "NONE if there are 40")
    static void the41stMarkIsNone() {
        SpanRows s = withMarks(1, 39);
        due("mark() number 40", s.mark(), 40);
        s.give(0, 5);
        due("mark() number 41", s.mark(), NONE);
        due("mark() number 42", s.mark(), NONE);
        due("count(2)", s.count(2), 40);
        due("back()", s.back(), 39);
        dueFree(s, 0);
    }

    @Says(in = "Promise 11", words = "NONE if there are 40")
    static void marksThatWentDoNotCountAmongThe40() {
        SpanRows s = withMarks(1, 40);
        s.back();
        s.give(0, 5);
        due("mark() number 40 again", s.mark(), 40);
        due("mark() number 41 again", s.mark(), NONE);
        due("back()", s.back(), 39);
        dueNumber(s, 0, 5);
        due("back()", s.back(), 38);
        dueFree(s, 0);
    }

    @Says(in = "Promise 12", words = "All is as at the latest mark (names")
    static void namesGoBack() {
        SpanRows s = withNames(2);
        s.mark();
        s.name();
        due("back()", s.back(), 0);
        due("count(0)", s.count(0), 2);
        due("about(2, 0)", s.about(2, 0), NONE);
        due("name()", s.name(), 2);
    }

    @Says(in = "Promise 12", words = "All is as at the latest mark (names")
    static void sixtyFourNamesGoBackToNone() {
        SpanRows s = new SpanRows();
        s.mark();
        for (int x = 0; x < 64; x++) {
            s.name();
        }
        due("back()", s.back(), 0);
        due("count(0)", s.count(0), 0);
        due("about(0, 0)", s.about(0, 0), NONE);
        due("name()", s.name(), 0);
    }

    @Says(in = "Promise 12", words = "All is as at the latest mark (names")
    static void sixtyFourNamesStayThatWereThereAtTheMark() {
        SpanRows s = withNames(64);
        s.give(62, 4);
        due("mark()", s.mark(), 1);
        s.give(63, 5);
        s.equal(0, 62);
        due("back()", s.back(), 0);
        due("count(0)", s.count(0), 64);
        dueFree(s, 63);
        dueFree(s, 0);
        dueNumber(s, 62, 4);
        due("name()", s.name(), NONE);
    }

    @Says(in = "Promise 12", words = "what was told")
    static void whatWasToldGoesBack() {
        SpanRows s = withNames(5);
        s.span(1, 0, 9);
        s.equal(2, 3);
        s.give(4, 7);
        String before = picture(s);
        s.mark();
        s.give(0, 1);
        s.span(1, 3, 4);
        s.equal(1, 2);
        s.equal(0, 3);
        s.equal(0, 4);
        due("back()", s.back(), 0);
        dueSame("back()", picture(s), before);
    }

    @Says(in = "Promise 12", words = "what was told")
    static void whatTakeGaveGoesBack() {
        SpanRows s = withSpans(2, 1, 2);
        s.mark();
        labelOf(s, 0, 1);
        s.take(3);
        due("back()", s.back(), 0);
        dueSpan(s, 0, 1, 2);
        dueSpan(s, 1, 1, 2);
    }

    @Says(in = "Promise 12", words = "what was kept")
    static void whatWasKeptGoesBack() {
        SpanRows s = withNames(2);
        keepOf(s, 0, 9, 0);
        s.mark();
        keepOf(s, 0, 5, 0);
        due("give(0, 6)", s.give(0, 6), false);
        due("back()", s.back(), 0);
        due("count(1)", s.count(1), 1);
        due("kept(1, 0)", s.kept(1, 0), NONE);
        due("give(0, 10), which is still against what is kept", s.give(0, 10), false);
        due("give(0, 6)", s.give(0, 6), true);
    }

    @Says(in = "Promise 12", words = "what was kept")
    static void sixtyKeptGoBackToNone() {
        SpanRows s = withNames(1);
        s.mark();
        for (int i = 0; i < 60; i++) {
            keepOf(s, 1, i, 0);
        }
        due("back()", s.back(), 0);
        due("count(1)", s.count(1), 0);
        due("kept(0, 0)", s.kept(0, 0), NONE);
        due("about(0, 3)", s.about(0, 3), 0);
        due("give(0, 100)", s.give(0, 100), true);
    }

    @Says(in = "Promise 12", words = "All is as at the latest mark")
    static void marksGoBackOneByOne() {
        SpanRows s = withNames(1);
        for (int i = 0; i < 40; i++) {
            s.mark();
            s.span(0, i, 100 - i);
        }
        for (int i = 39; i > 0; i--) {
            due("back()", s.back(), i);
            dueSpan(s, 0, i - 1, 101 - i);
        }
        due("back()", s.back(), 0);
        dueFree(s, 0);
    }

    @Says(in = "Promise 12", words = "All is as at the latest mark")
    static void twoMarksAtOnePlaceAreTwo() {
        SpanRows s = withNames(1);
        s.mark();
        s.mark();
        s.give(0, 5);
        due("back()", s.back(), 1);
        dueFree(s, 0);
        due("back()", s.back(), 0);
        dueFree(s, 0);
        due("back()", s.back(), NONE);
    }

    @Says(in = "Promise 12", words = "the row stays")
    static void rowStays() {
        SpanRows s = withNames(2);
        s.put(0, 2);
        s.mark();
        s.put(1, 3);
        s.put(0, 4);
        due("back()", s.back(), 0);
        due("count(3)", s.count(3), 3);
        s.give(0, 1);
        s.give(1, 1);
        due("keep() of 2, 3 and 4", s.keep(1, 9), 1);
    }

    @Says(in = "Promise 12", words = "the row stays")
    static void rowThatWasTakenStaysTaken() {
        SpanRows s = withNames(1);
        putTimes(s, 0, 32);
        s.mark();
        s.keep(2, 0);
        due("back()", s.back(), 0);
        due("count(3)", s.count(3), 0);
        putTimes(s, 0, 32);
        s.mark();
        due("back()", s.back(), 0);
        due("count(3) of a full row", s.count(3), 32);
    }

    @Says(in = "Promise 12", words = "the row stays")
    static void rowStaysWithTheNamesThatWerePut() {
        SpanRows s = withSpans(2, 1, 9);
        s.mark();
        s.equal(0, 1);
        s.put(1, 1);
        due("back()", s.back(), 0);
        s.give(0, 5);
        due("label() of 1, that is alone again", s.label(), 9);
        due("count(5)", s.count(5), 1);
    }

    @Says(in = "Promise 12", words = "but for names that are gone, with what was behind them")
    static void nameThatIsGoneGoesThoughItWasOneWithAnother() {
        SpanRows s = withNames(1);
        s.mark();
        s.name();
        s.equal(0, 1);
        s.put(0, 1);
        s.put(1, 1);
        s.put(0, 1);
        due("back()", s.back(), 0);
        due("count(3)", s.count(3), 1);
    }

    @Says(in = "Promise 12", words = "but for names that are gone, with what was behind them")
    static void rowIsCutAtTheFirstNameThatIsGone() {
        SpanRows s = withNames(2);
        s.mark();
        s.name();
        s.name();
        s.put(0, 2);
        s.put(1, 3);
        s.put(3, 4);
        s.put(0, 5);
        s.put(2, 6);
        due("back()", s.back(), 0);
        due("count(3)", s.count(3), 2);
        s.give(0, 1);
        s.give(1, 1);
        due("keep() of 2 and 3", s.keep(1, 5), 1);
        due("kept(0, 1)", s.kept(0, 1), 2);
    }

    @Says(in = "Promise 12", words = "but for names that are gone, with what was behind them")
    static void rowThatBeginsWithANameThatIsGoneIsEmpty() {
        SpanRows s = withNames(1);
        s.mark();
        s.name();
        s.put(1, 1);
        putTimes(s, 0, 31);
        due("back()", s.back(), 0);
        due("count(3)", s.count(3), 0);
        s.name();
        due("count(3) when there is such a name again", s.count(3), 0);
    }

    @Says(in = "Promise 12", words = "but for names that are gone, with what was behind them")
    static void lastPlaceOfAFullRowGoes() {
        SpanRows s = withNames(1);
        s.mark();
        s.name();
        putTimes(s, 0, 31);
        s.put(1, 1);
        due("back()", s.back(), 0);
        due("count(3)", s.count(3), 31);
        due("put(0, 1)", s.put(0, 1), 32);
        due("put(0, 1)", s.put(0, 1), NONE);
    }

    @Says(in = "Promise 12", words = "which goes: how many are left")
    static void backAnswersHowManyAreLeft() {
        SpanRows s = withMarks(1, 40);
        for (int left = 39; left >= 0; left--) {
            due("back()", s.back(), left);
            due("count(2)", s.count(2), left);
        }
    }

    @Says(in = "Promise 12", words = "NONE if there is none")
    static void backWithoutAMarkIsNone() {
        due("back() of a new object", new SpanRows().back(), NONE);
        SpanRows s = withNames(2);
        s.mark();
        s.back();
        s.give(0, 5);
        keepOf(s, 2, 0, 0, 1);
        s.put(1, 1);
        String before = picture(s);
        due("back()", s.back(), NONE);
        due("back()", s.back(), NONE);
        dueSame("back() NONE", picture(s), before);
        due("mark()", s.mark(), 1);
    }
}
