/** Boundary cases of promises 1 to 5: what is told of names. */
final class TellingBoundaries extends Checks {
    private TellingBoundaries() {
    }

    @Says(in = "Promise 1", words = "No names")
    static void newObjectHasNoNames() {
        SpanRows s = new SpanRows();
        due("count(0)", s.count(0), 0);
        due("about(0, 0)", s.about(0, 0), NONE);
        due("give(0, 0)", s.give(0, 0), false);
    }

    @Says(in = "Promise 1", words = "nothing kept")
    static void newObjectHasNothingKept() {
        SpanRows s = new SpanRows();
        due("count(1)", s.count(1), 0);
        due("kept(0, 0)", s.kept(0, 0), NONE);
    }

    @Says(in = "Promise 1", words = "no marks")
    static void newObjectHasNoMarks() {
        SpanRows s = new SpanRows();
        due("count(2)", s.count(2), 0);
        due("back()", s.back(), NONE);
        due("mark()", s.mark(), 1);
    }

    @Says(in = "Promise 1", words = "the row is empty")
    static void rowOfANewObjectIsEmpty() {
        SpanRows s = new SpanRows();
        due("count(3)", s.count(3), 0);
        due("keep(1, 0)", s.keep(1, 0), 1);
        due("kept(0, 1)", s.kept(0, 1), 0);
    }

    @Says(in = "Promise 1", words = "No names, nothing kept, no marks; the row is empty.")
    static void newObjectHasNothingOfAnother() {
        SpanRows full = withSpans(3, 1, 2);
        full.mark();
        keepOf(full, 2, 0, 0, 1);
        labelOf(full, 0, 1);
        full.put(0, 1);
        SpanRows s = new SpanRows();
        due("count(0)", s.count(0), 0);
        due("count(1)", s.count(1), 0);
        due("count(2)", s.count(2), 0);
        due("count(3)", s.count(3), 0);
        due("count(0) of the other", full.count(0), 3);
    }

    @Says(in = "Promise 2", words = "A new name, free, without a span")
    static void newNameIsFreeWithoutASpan() {
        SpanRows s = withNames(63);
        s.name();
        for (int x : new int[] {0, 62, 63}) {
            dueFree(s, x);
            due("about(" + x + ", 1)", s.about(x, 1), x);
            due("about(" + x + ", 2)", s.about(x, 2), 1);
        }
    }

    @Says(in = "Promise 2", words = "A new name, free, without a span")
    static void newNameHasNothingOfOneThatWent() {
        SpanRows s = withNames(1);
        s.mark();
        s.name();
        s.name();
        s.span(1, 3, 4);
        s.equal(0, 1);
        s.give(2, 9);
        s.back();
        s.name();
        s.name();
        dueFree(s, 1);
        dueFree(s, 2);
        due("about(1, 1)", s.about(1, 1), 1);
        due("about(0, 2)", s.about(0, 2), 1);
    }

    @Says(in = "Promise 2", words = "its number")
    static void nameAnswersTheNumbersFrom0() {
        SpanRows s = new SpanRows();
        for (int x = 0; x < 64; x++) {
            due("name()", s.name(), x);
        }
    }

    @Says(in = "Promise 2", words = "NONE if there are 64")
    static void noneIfThereAre64() {
        SpanRows s = withNames(63);
        due("name() with 63", s.name(), 63);
        s.give(63, 5);
        due("name() with 64", s.name(), NONE);
        due("name() once more", s.name(), NONE);
        due("count(0)", s.count(0), 64);
        dueNumber(s, 63, 5);
        dueFree(s, 0);
    }

    @Says(in = "Promise 2", words = "NONE if there are 64")
    static void namesThatAreOneCountEachAmongThe64() {
        SpanRows s = withNames(64);
        s.equal(0, 1);
        s.give(2, 5);
        due("name()", s.name(), NONE);
        due("count(0)", s.count(0), 64);
    }

    @Says(in = "Promise 2", words = "NONE if there are 64")
    static void namesThatWentDoNotCountAmongThe64() {
        SpanRows s = withNames(63);
        s.mark();
        due("name() with 63", s.name(), 63);
        due("name() with 64", s.name(), NONE);
        s.back();
        due("name() with 63 again", s.name(), 63);
        due("name() with 64 again", s.name(), NONE);
    }

    @Says(in = "Promise 3", words = "A name lies within low .. high, too: true")
    static void spansHoldTogether() {
        SpanRows s = withNames(1);
        due("span(0, -5, 5)", s.span(0, -5, 5), true);
        due("span(0, 0, 9)", s.span(0, 0, 9), true);
        dueSpan(s, 0, 0, 5);
        due("span(0, -9, 3)", s.span(0, -9, 3), true);
        dueSpan(s, 0, 0, 3);
        due("a wider one", s.span(0, LEAST, GREATEST), true);
        dueSpan(s, 0, 0, 3);
        due("the same one", s.span(0, 0, 3), true);
        dueSpan(s, 0, 0, 3);
    }

    @Says(in = "Promise 3", words = "A name lies within low .. high, too: true")
    static void theWidestAndTheNarrowestSpan() {
        SpanRows s = withNames(4);
        due("all of 64 bits", s.span(0, LEAST, GREATEST), true);
        dueSpan(s, 0, LEAST, GREATEST);
        due("the least alone", s.span(1, LEAST, LEAST), true);
        dueSpan(s, 1, LEAST, LEAST);
        due("the greatest alone", s.span(2, GREATEST, GREATEST), true);
        dueSpan(s, 2, GREATEST, GREATEST);
        due("0 alone", s.span(3, 0, 0), true);
        dueSpan(s, 3, 0, 0);
    }

    @Says(in = "Promise 3", words = "its number doesn't lie there")
    static void spanBesideTheNumberFails() {
        SpanRows s = withNumbers(12);
        due("span up to it", s.span(0, 5, 12), true);
        due("span from it", s.span(0, 12, 20), true);
        due("span of it alone", s.span(0, 12, 12), true);
        due("span of all 64 bits", s.span(0, LEAST, GREATEST), true);
        due("span up to one below", s.span(0, 5, 11), false);
        due("span from one above", s.span(0, 13, 20), false);
        due("span far below", s.span(0, LEAST, LEAST), false);
        due("span far above", s.span(0, GREATEST, GREATEST), false);
        dueNumber(s, 0, 12);
    }

    @Says(in = "Promise 3", words = "its number doesn't lie there")
    static void numbersAtTheEndsOf64BitsLieInSpans() {
        SpanRows s = withNumbers(LEAST, GREATEST);
        due("span from the least", s.span(0, LEAST, 0), true);
        due("span from one above the least", s.span(0, LEAST + 1, 0), false);
        due("span up to the greatest", s.span(1, 0, GREATEST), true);
        due("span up to one below the greatest", s.span(1, 0, GREATEST - 1), false);
    }

    @Says(in = "Promise 3", words = "its span has none in common with it")
    static void spansThatTouchHaveOneInCommon() {
        SpanRows s = withSpans(2, 3, 6);
        due("span from its greatest", s.span(0, 6, 9), true);
        dueSpan(s, 0, 6, 6);
        due("span up to its least", s.span(1, 0, 3), true);
        dueSpan(s, 1, 3, 3);
    }

    @Says(in = "Promise 3", words = "its span has none in common with it")
    static void spansSideBySideHaveNoneInCommon() {
        SpanRows s = withSpans(1, 3, 6);
        due("span from one above", s.span(0, 7, 9), false);
        due("span up to one below", s.span(0, 0, 2), false);
        due("span far above", s.span(0, GREATEST, GREATEST), false);
        due("span far below", s.span(0, LEAST, LEAST), false);
        dueSpan(s, 0, 3, 6);
    }

    @Says(in = "Promise 3", words = "its span has none in common with it")
    static void spanFailsForAllThatAreOne() {
        SpanRows s = withNames(2);
        s.equal(0, 1);
        s.span(1, 3, 6);
        due("span(0, 7, 9)", s.span(0, 7, 9), false);
        dueSpan(s, 0, 3, 6);
        dueSpan(s, 1, 3, 6);
    }

    @Says(in = "Promise 3", words = "(also if high is below low)")
    static void highBelowLowFailsWithoutASpan() {
        SpanRows s = withNames(1);
        due("span(0, 4, 3)", s.span(0, 4, 3), false);
        due("the greatest to the least", s.span(0, GREATEST, LEAST), false);
        dueFree(s, 0);
    }

    @Says(in = "Promise 3", words = "(also if high is below low)")
    static void highBelowLowFailsInsideTheSpan() {
        SpanRows s = withSpans(1, 0, 9);
        due("span(0, 5, 4)", s.span(0, 5, 4), false);
        due("span(0, 9, 0)", s.span(0, 9, 0), false);
        dueSpan(s, 0, 0, 9);
    }

    @Says(in = "Promise 3", words = "(also if high is below low)")
    static void highBelowLowFailsRoundTheNumber() {
        SpanRows s = withNumbers(5);
        due("span(0, 6, 4)", s.span(0, 6, 4), false);
        due("span(0, 5, 4)", s.span(0, 5, 4), false);
        due("span(0, 6, 5)", s.span(0, 6, 5), false);
        dueNumber(s, 0, 5);
    }

    @Says(in = "Promise 3", words = "False also if there is no such name.")
    static void spanOfNoNameIsFalse() {
        due("span(0, 0, 1) of a new object", new SpanRows().span(0, 0, 1), false);
        SpanRows s = withNames(2);
        String before = picture(s);
        for (int x : notBelow(2)) {
            due("span(" + x + ", 0, 1)", s.span(x, 0, 1), false);
        }
        dueSame("span() of no name", picture(s), before);
        due("span(64, 0, 1) with 64 names", withNames(64).span(64, 0, 1), false);
    }

    @Says(in = "Promise 3", words = "False also if there is no such name.")
    static void spanOfANameThatWentIsFalse() {
        SpanRows s = withNames(1);
        s.mark();
        s.name();
        due("span(1, 0, 9)", s.span(1, 0, 9), true);
        s.back();
        due("span(1, 0, 1)", s.span(1, 0, 1), false);
        due("give(1, 0)", s.give(1, 0), false);
    }

    @Says(in = "Promise 4", words = "A name has a number: true")
    static void giveAtTheEndsOfTheSpan() {
        SpanRows s = withSpans(2, 3, 6);
        due("give(0, 3), its least", s.give(0, 3), true);
        dueNumber(s, 0, 3);
        due("give(1, 6), its greatest", s.give(1, 6), true);
        dueNumber(s, 1, 6);
    }

    @Says(in = "Promise 4", words = "A name has a number: true")
    static void giveAtTheEndsOf64Bits() {
        SpanRows s = withNames(3);
        due("give(0, the least)", s.give(0, LEAST), true);
        dueNumber(s, 0, LEAST);
        due("give(1, the greatest)", s.give(1, GREATEST), true);
        dueNumber(s, 1, GREATEST);
        due("give(2, 0)", s.give(2, 0), true);
        dueNumber(s, 2, 0);
    }

    @Says(in = "Promise 4", words = "it has another one")
    static void anotherNumberFails() {
        SpanRows s = withNumbers(5);
        due("give(0, 4)", s.give(0, 4), false);
        due("give(0, 6)", s.give(0, 6), false);
        due("give(0, 5), the same one", s.give(0, 5), true);
        due("alike in 32 bits", s.give(0, 5 + (1L << 32)), false);
        dueNumber(s, 0, 5);
    }

    @Says(in = "Promise 4", words = "or doesn't lie in its span")
    static void numberBesideTheSpanFails() {
        SpanRows s = withSpans(1, 3, 6);
        due("give(0, 2)", s.give(0, 2), false);
        due("give(0, 7)", s.give(0, 7), false);
        due("give(0, the least)", s.give(0, LEAST), false);
        due("give(0, the greatest)", s.give(0, GREATEST), false);
        dueSpan(s, 0, 3, 6);
    }

    @Says(in = "Promise 4", words = "false if it FAILS")
    static void numberAgainstWhatIsKeptFails() {
        SpanRows s = withNames(2);
        keepOf(s, 0, 9, 0, 1);
        due("give(0, 5)", s.give(0, 5), true);
        due("give(1, 5), 10 at most 9", s.give(1, 5), false);
        dueFree(s, 1);
        due("give(1, 4), 9 at most 9", s.give(1, 4), true);
    }

    @Says(in = "Promise 4", words = "(Any that is one with it has it then, too.)")
    static void allThatAreOneHaveTheNumber() {
        SpanRows s = withNames(64);
        for (int x = 1; x < 63; x++) {
            s.equal(x, x - 1);
        }
        due("give(40, 8)", s.give(40, 8), true);
        dueNumber(s, 0, 8);
        dueNumber(s, 62, 8);
        dueFree(s, 63);
    }

    @Says(in = "Promise 4", words = "False also if there is no such name.")
    static void giveToNoNameIsFalse() {
        due("give(0, 0) of a new object", new SpanRows().give(0, 0), false);
        SpanRows s = withNames(2);
        String before = picture(s);
        for (int x : notBelow(2)) {
            due("give(" + x + ", 0)", s.give(x, 0), false);
        }
        dueSame("give() to no name", picture(s), before);
        due("give(64, 0) with 64 names", withNames(64).give(64, 0), false);
    }

    @Says(in = "Promise 5", words = "Two names are made one: true")
    static void theFirstAndTheLastNameAreMadeOne() {
        SpanRows s = withNames(64);
        due("equal(63, 0)", s.equal(63, 0), true);
        due("about(63, 1)", s.about(63, 1), 0);
        due("about(0, 2)", s.about(0, 2), 2);
        due("equal(0, 63), once more", s.equal(0, 63), true);
        due("about(0, 2)", s.about(0, 2), 2);
    }

    @Says(in = "Promise 5", words = "Two names are made one: true")
    static void unlikeOnesMayBeOneWhileTheyAreFree() {
        SpanRows s = withNames(3);
        keepOf(s, 2, 0, 0, 1);
        due("equal(0, 1)", s.equal(0, 1), true);
        due("about(1, 1)", s.about(1, 1), 0);
        due("give(1, 0)", s.give(1, 0), false);
    }

    @Says(in = "Promise 5", words = "they have two numbers")
    static void twoNumbersFail() {
        SpanRows s = withNumbers(5, 6, 5, 5 + (1L << 32));
        due("equal(0, 1)", s.equal(0, 1), false);
        due("equal(1, 0)", s.equal(1, 0), false);
        due("equal(0, 3), alike in 32 bits", s.equal(0, 3), false);
        due("about(0, 2)", s.about(0, 2), 1);
        due("equal(0, 2), the same number", s.equal(0, 2), true);
        due("about(2, 1)", s.about(2, 1), 0);
    }

    @Says(in = "Promise 5", words = "the number of one doesn't lie in the span of the other")
    static void numberBesideTheSpanOfTheOtherFails() {
        SpanRows s = withNumbers(2, 7);
        s.name();
        s.span(2, 3, 6);
        due("equal(0, 2), one below", s.equal(0, 2), false);
        due("equal(2, 0), one below", s.equal(2, 0), false);
        due("equal(1, 2), one above", s.equal(1, 2), false);
        due("equal(2, 1), one above", s.equal(2, 1), false);
        dueSpan(s, 2, 3, 6);
        due("about(2, 2)", s.about(2, 2), 1);
    }

    @Says(in = "Promise 5", words = "the number of one doesn't lie in the span of the other")
    static void numberAtTheEndsOfTheSpanOfTheOtherIsFine() {
        SpanRows s = withNumbers(3, 6);
        s.name();
        s.name();
        s.span(2, 3, 6);
        s.span(3, 3, 6);
        due("equal(2, 0), its least", s.equal(2, 0), true);
        dueNumber(s, 2, 3);
        due("equal(1, 3), its greatest", s.equal(1, 3), true);
        dueNumber(s, 3, 6);
    }

    @Says(in = "Promise 5", words = "or their spans have none in common")
    static void spansSideBySideFail() {
        SpanRows s = withNames(2);
        s.span(0, 3, 6);
        s.span(1, 7, 9);
        due("equal(0, 1)", s.equal(0, 1), false);
        due("equal(1, 0)", s.equal(1, 0), false);
        dueSpan(s, 0, 3, 6);
        dueSpan(s, 1, 7, 9);
        due("about(1, 1)", s.about(1, 1), 1);
    }

    @Says(in = "Promise 5", words = "or their spans have none in common")
    static void spansThatTouchAreFine() {
        SpanRows s = withNames(4);
        s.span(0, 3, 6);
        s.span(1, 6, 9);
        due("equal(0, 1)", s.equal(0, 1), true);
        dueSpan(s, 0, 6, 6);
        dueSpan(s, 1, 6, 6);
        s.span(2, LEAST, GREATEST);
        s.span(3, GREATEST, GREATEST);
        due("equal(2, 3)", s.equal(2, 3), true);
        dueSpan(s, 2, GREATEST, GREATEST);
    }

    @Says(in = "Promise 5", words = "false if it FAILS")
    static void beingOneAgainstWhatIsKeptFails() {
        SpanRows s = withNames(3);
        keepOf(s, 2, 0, 0, 1);
        s.give(0, 5);
        due("equal(0, 1)", s.equal(0, 1), false);
        due("equal(1, 0)", s.equal(1, 0), false);
        due("equal(2, 0)", s.equal(2, 0), true);
        due("equal(1, 2)", s.equal(1, 2), false);
        dueFree(s, 1);
        due("about(1, 2)", s.about(1, 2), 1);
    }

    @Says(in = "Promise 5", words = "False also if there are no such two.")
    static void equalOfNoSuchTwoIsFalse() {
        due("equal(0, 0) of a new object", new SpanRows().equal(0, 0), false);
        SpanRows s = withNames(2);
        String before = picture(s);
        for (int x : notBelow(2)) {
            due("equal(" + x + ", 0)", s.equal(x, 0), false);
            due("equal(0, " + x + ")", s.equal(0, x), false);
            due("equal(" + x + ", " + x + ")", s.equal(x, x), false);
        }
        dueSame("equal() of no such two", picture(s), before);
    }

    @Says(in = "Promise 5", words = "(A name and itself: true.)")
    static void nameAndItselfAreOne() {
        SpanRows s = withNames(4);
        s.span(1, 3, 6);
        s.give(2, 5);
        s.equal(3, 0);
        String before = picture(s);
        for (int x = 0; x < 4; x++) {
            due("equal(" + x + ", " + x + ")", s.equal(x, x), true);
        }
        dueSame("equal() of a name and itself", picture(s), before);
    }
}
