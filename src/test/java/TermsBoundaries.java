/** Boundary cases of 'What it is' and 'Terms'. */
final class TermsBoundaries extends Checks {
    private TermsBoundaries() {
    }

    @Says(in = "What it is", words = "An object is used for at most 512 calls after it has been made")
    static void the512thCallIsAnswered() {
        SpanRows s = new SpanRows();
        due("name()", s.name(), 0);
        for (int call = 2; call <= 511; call += 2) {
            due("mark()", s.mark(), 1);
            due("back()", s.back(), 0);
        }
        due("give(0, 5) as the 512th call", s.give(0, 5), true);
    }

    @Says(in = "Terms", words = "NAMES 0, 1, .., 64 at most")
    static void namesAre0To63() {
        SpanRows s = withNames(64);
        s.name();
        due("give(0, 1)", s.give(0, 1), true);
        due("give(63, 1)", s.give(63, 1), true);
        due("give(64, 1)", s.give(64, 1), false);
        due("give(-1, 1)", s.give(-1, 1), false);
    }

    @Says(in = "Terms", words = "A name is FREE, perhaps with a SPAN low .. high, or has a NUMBER")
    static void spanOfOneNumberIsNoNumber() {
        SpanRows s = withSpans(1, 7, 7);
        due("about(0, 0)", s.about(0, 0), 1);
        due("keep() of a row that would not be so", keepOf(s, 1, 8, 0), 1);
        due("give(0, 7)", s.give(0, 7), false);
    }

    @Says(in = "Terms", words = "a NUMBER (64 bits)")
    static void numbersHave64Bits() {
        SpanRows s = withNumbers(LEAST, GREATEST, 1L << 32);
        dueNumber(s, 0, LEAST);
        dueNumber(s, 1, GREATEST);
        dueNumber(s, 2, 1L << 32);
        due("give(2, 0), alike in 32 bits", s.give(2, 0), false);
    }

    @Says(in = "Terms", words = "Names may be MADE ONE: all that was told of one holds for the other")
    static void spanToldEarlierHoldsForTheOther() {
        SpanRows s = withNames(4);
        s.span(0, 3, 8);
        s.equal(0, 1);
        dueSpan(s, 1, 3, 8);
        s.span(3, 4, 5);
        s.equal(2, 3);
        dueSpan(s, 2, 4, 5);
        s.equal(3, 1);
        dueSpan(s, 0, 4, 5);
    }

    @Says(in = "Terms", words = "Names may be MADE ONE: all that was told of one holds for the other")
    static void numberToldEarlierHoldsForTheOther() {
        SpanRows s = withNames(4);
        s.give(0, LEAST);
        s.equal(0, 1);
        dueNumber(s, 1, LEAST);
        s.give(3, GREATEST);
        s.equal(2, 3);
        dueNumber(s, 2, GREATEST);
    }

    @Says(in = "Terms", words = "Names may be MADE ONE: all that was told of one holds for the other")
    static void beingOneToldEarlierHoldsForTheOther() {
        SpanRows s = withNames(4);
        s.equal(0, 1);
        s.equal(2, 3);
        s.equal(1, 2);
        s.give(3, 6);
        dueNumber(s, 0, 6);
        dueNumber(s, 1, 6);
    }

    @Says(in = "Terms", words = "from then on")
    static void whatIsToldLaterHoldsForTheOther() {
        SpanRows s = withNames(2);
        s.equal(0, 1);
        s.span(1, 2, 9);
        dueSpan(s, 0, 2, 9);
        s.span(0, 3, 10);
        dueSpan(s, 1, 3, 9);
        s.give(1, 9);
        dueNumber(s, 0, 9);
    }

    @Says(in = "Terms", words = "KEPT are, 60 at most")
    static void sixtyAreKeptAndAllHold() {
        SpanRows s = withNames(61);
        for (int x = 0; x < 60; x++) {
            due("keep() number " + (x + 1), keepOf(s, 1, x, x), 1);
        }
        due("keep() number 61", keepOf(s, 1, 60, 60), NONE);
        due("give(0, 1) against the first", s.give(0, 1), false);
        due("give(59, 58) against the 60th", s.give(59, 58), false);
        due("give(60, 1), the 61st is not kept", s.give(60, 1), true);
        s.span(59, 58, 60);
        due("label() with the 60th", labelOf(s, 59), 1);
    }

    @Says(in = "Terms", words = "kind 0: the sum of factor times number is at most k")
    static void sumThatIsKIsAtMostK() {
        SpanRows s = withNumbers(4, 3);
        s.put(0, 5);
        s.put(1, -2);
        due("14 at most 14", s.keep(0, 14), 1);
        s.put(0, 5);
        s.put(1, -2);
        due("14 at most 13", s.keep(0, 13), 0);
        s.put(0, 5);
        s.put(1, -2);
        due("14 at most the greatest", s.keep(0, GREATEST), 1);
        s.put(0, 5);
        s.put(1, -2);
        due("14 at most the least", s.keep(0, LEAST), 0);
    }

    @Says(in = "Terms", words = "kind 0: the sum of factor times number is at most k")
    static void sumsAtTheEndsOf64BitsAreAtMostK() {
        SpanRows s = withNumbers(LEAST, GREATEST);
        due("the least at most the least", keepOf(s, 0, LEAST, 0), 1);
        due("the least at most the greatest", keepOf(s, 0, GREATEST, 0), 1);
        due("the greatest at most the greatest", keepOf(s, 0, GREATEST, 1), 1);
        due("the greatest at most one less", keepOf(s, 0, GREATEST - 1, 1), 0);
    }

    @Says(in = "Terms", words = "kind 0: the sum of factor times number is at most k")
    static void sumOfNoNamesIsAtMost0() {
        SpanRows s = new SpanRows();
        due("an empty row at most 0", s.keep(0, 0), 1);
        due("an empty row at most -1", s.keep(0, -1), 0);
    }

    @Says(in = "Terms", words = "1: it is k")
    static void sumBesideKIsNotK() {
        SpanRows s = withNumbers(4, 3);
        due("7 is 6", keepOf(s, 1, 6, 0, 1), 0);
        due("7 is 7", keepOf(s, 1, 7, 0, 1), 1);
        due("7 is 8", keepOf(s, 1, 8, 0, 1), 0);
        due("7 is 7 and 2 to the 32nd", keepOf(s, 1, 7 + (1L << 32), 0, 1), 0);
    }

    @Says(in = "Terms", words = "1: it is k")
    static void sumOfNoNamesIs0() {
        SpanRows s = new SpanRows();
        due("an empty row is -1", s.keep(1, -1), 0);
        due("an empty row is 0", s.keep(1, 0), 1);
        due("an empty row is 1", s.keep(1, 1), 0);
    }

    @Says(in = "Terms", words = "2: no two numbers are the same")
    static void anyTwoNumbersOfARowMustBeUnlike() {
        SpanRows s = withNumbers(1, 2, 3, 1, 1 + (1L << 32));
        due("1, 2, 3", keepOf(s, 2, 0, 0, 1, 2), 1);
        due("1, 2, 3, 1", keepOf(s, 2, 0, 0, 1, 2, 3), 0);
        due("1, 1, 2, 3", keepOf(s, 2, 0, 0, 3, 1, 2), 0);
        due("2, 3, 1, 1", keepOf(s, 2, 0, 1, 2, 0, 3), 0);
        due("alike in 32 bits", keepOf(s, 2, 0, 0, 4), 1);
    }

    @Says(in = "Terms", words = "2: no two numbers are the same")
    static void rowsOfNoneAndOfOneAreUnlike() {
        SpanRows s = withNumbers(5);
        due("an empty row", s.keep(2, 0), 1);
        due("a row of one", keepOf(s, 2, 0, 0), 1);
    }

    @Says(in = "Terms", words = "factors and k count for nothing")
    static void factorsCountForNothingAmongUnlikeOnes() {
        SpanRows s = withNumbers(2, 4, 4);
        s.put(0, 2);
        s.put(1, 1);
        due("twice 2 and 4", s.keep(2, 0), 1);
        s.put(0, 0);
        s.put(1, 0);
        due("0 times 2 and 0 times 4", s.keep(2, 0), 1);
        s.put(1, 1);
        s.put(2, 2);
        due("4 and twice 4", s.keep(2, 0), 0);
    }

    @Says(in = "Terms", words = "factors and k count for nothing")
    static void kCountsForNothingAmongUnlikeOnes() {
        SpanRows s = withNumbers(2, 4, 4);
        for (long k : new long[] {LEAST, -1, 1, 6, 8, GREATEST}) {
            due("2 and 4 with k " + k, keepOf(s, 2, k, 0, 1), 1);
            due("4 and 4 with k " + k, keepOf(s, 2, k, 1, 2), 0);
        }
    }

    @Says(in = "Terms", words = "a row that has one name twice")
    static void oneNameTwiceIsTheSameNumberTwice() {
        SpanRows s = withNumbers(5);
        due("keep() of a name with a number twice", keepOf(s, 2, 0, 0, 0), 0);
        s.name();
        due("keep() of a free name twice", keepOf(s, 2, 0, 1, 1), 1);
        due("then no number is good", s.give(1, 3), false);
        s.span(1, 0, 9);
        due("then there is no way", labelOf(s, 1), 0);
    }

    @Says(in = "Terms", words = "or two that are one, has the same number twice")
    static void twoThatAreOneAreTheSameNumberTwice() {
        SpanRows s = withNames(4);
        s.equal(0, 1);
        s.give(0, 5);
        due("keep() of two that are one and have a number", keepOf(s, 2, 0, 0, 1), 0);
        due("keep() of two that are free", keepOf(s, 2, 0, 2, 3), 1);
        due("equal(2, 3), none has a number yet", s.equal(2, 3), true);
        due("then no number is good", s.give(2, 3), false);
        s.span(2, 0, 9);
        due("then there is no way", labelOf(s, 3), 0);
    }

    @Says(in = "Terms", words = "Sums and products wrap.")
    static void sumsWrap() {
        SpanRows s = withNumbers(GREATEST, 1, LEAST);
        due("the greatest and 1 is the least", keepOf(s, 1, LEAST, 0, 1), 1);
        due("the greatest and 1 at most -1", keepOf(s, 0, -1, 0, 1), 1);
        due("the least twice is 0", keepOf(s, 1, 0, 2, 2), 1);
        due("the least twice at most -1", keepOf(s, 0, -1, 2, 2), 0);
        due("a sum that wraps there and back", keepOf(s, 1, 0, 0, 1, 2), 1);
    }

    @Says(in = "Terms", words = "Sums and products wrap.")
    static void productsWrap() {
        SpanRows s = withNumbers(GREATEST, LEAST, 1L << 32);
        s.put(0, 2);
        due("twice the greatest is -2", s.keep(1, -2), 1);
        s.put(1, -1);
        due("-1 times the least is the least", s.keep(1, LEAST), 1);
        s.put(2, 1L << 32);
        due("2 to the 64th is 0", s.keep(1, 0), 1);
        s.put(1, LEAST);
        due("the least times the least at most -1", s.keep(0, -1), 0);
    }

    @Says(in = "Terms", words = "Sums and products wrap.")
    static void sumsAndProductsWrapInLabel() {
        SpanRows s = withSpans(1, 0, 4);
        s.put(0, LEAST);
        s.keep(1, 0);
        due("the least times 0, 2 and 4 is 0", labelOf(s, 0), 3);
        dueWay(s, 2, 4);
    }

    @Says(in = "Terms", words = "What is kept is looked at as soon as all its names have numbers")
    static void itIsNotLookedAtWhileANameIsFree() {
        SpanRows s = withSpans(3, 0, 9);
        due("a row that can never be so", keepOf(s, 0, -1, 0, 1, 2), 1);
        due("give(0, 9)", s.give(0, 9), true);
        due("give(1, 9)", s.give(1, 9), true);
        due("give(2, 0), the last one", s.give(2, 0), false);
    }

    @Says(in = "Terms", words = "What is kept is looked at as soon as all its names have numbers")
    static void itIsLookedAtWhenOneNumberCompletesIt() {
        SpanRows s = withNames(4);
        s.equal(1, 3);
        keepOf(s, 1, 12, 0, 1, 2, 3);
        s.give(0, 1);
        s.give(2, 1);
        due("give(1, 6), two places get it", s.give(1, 6), false);
        due("give(3, 5), two places get it", s.give(3, 5), true);
        due("kept(0, 2)", s.kept(0, 2), 0);
    }

    @Says(in = "Terms", words = "What is kept is looked at as soon as all its names have numbers")
    static void itIsLookedAtWhenBeingOneCompletesIt() {
        SpanRows s = withNames(4);
        keepOf(s, 1, 5, 0, 1);
        s.give(0, 2);
        s.give(2, 2);
        s.give(3, 3);
        due("equal(1, 2), 2 and 2 is not 5", s.equal(1, 2), false);
        due("equal(2, 1), 2 and 2 is not 5", s.equal(2, 1), false);
        due("equal(1, 3), 2 and 3 is 5", s.equal(1, 3), true);
    }

    @Says(in = "Terms", words = "What is kept is looked at as soon as all its names have numbers")
    static void itIsLookedAtWhenOneThatIsOneWithItsNameGetsANumber() {
        SpanRows s = withNames(4);
        keepOf(s, 0, 5, 0);
        s.equal(0, 1);
        due("give(1, 6), 6 at most 5", s.give(1, 6), false);
        s.give(2, 6);
        due("equal(1, 2), 6 at most 5", s.equal(1, 2), false);
        due("equal(2, 1), 6 at most 5", s.equal(2, 1), false);
        s.give(3, 5);
        due("equal(1, 3), 5 at most 5", s.equal(1, 3), true);
        dueNumber(s, 0, 5);
    }

    @Says(in = "Terms", words = "What FAILS changes nothing")
    static void spanThatFailsChangesNothing() {
        SpanRows s = ofEachSort();
        String before = picture(s);
        due("span(0, 6, 9) beside its span", s.span(0, 6, 9), false);
        due("span(2, 8, 9) beside its number", s.span(2, 8, 9), false);
        due("span(3, 1, 0)", s.span(3, 1, 0), false);
        dueSame("span() that fails", picture(s), before);
    }

    @Says(in = "Terms", words = "What FAILS changes nothing")
    static void giveThatFailsChangesNothing() {
        SpanRows s = ofEachSort();
        String before = picture(s);
        due("give(1, 6) beside its span", s.give(1, 6), false);
        due("give(2, 8) beside its number", s.give(2, 8), false);
        due("give(0, 4) against what is kept", s.give(0, 4), false);
        dueSame("give() that fails", picture(s), before);
    }

    @Says(in = "Terms", words = "What FAILS changes nothing")
    static void equalThatFailsChangesNothing() {
        SpanRows s = ofEachSort();
        s.span(3, 6, 8);
        s.name();
        s.give(4, 4);
        s.name();
        s.give(5, 0);
        String before = picture(s);
        due("equal(0, 3), two spans", s.equal(0, 3), false);
        due("equal(3, 1), two spans", s.equal(3, 1), false);
        due("equal(2, 0), number and span", s.equal(2, 0), false);
        due("equal(1, 2), span and number", s.equal(1, 2), false);
        due("equal(2, 5), two numbers", s.equal(2, 5), false);
        due("equal(0, 4), against what is kept", s.equal(0, 4), false);
        due("equal(4, 1), against what is kept", s.equal(4, 1), false);
        dueSame("equal() that fails", picture(s), before);
    }

    @Says(in = "Terms", words = "What FAILS changes nothing")
    static void keepThatFailsChangesNothing() {
        SpanRows s = ofEachSort();
        String before = picture(s);
        due("keep() that fails", keepOf(s, 1, 8, 2), 0);
        dueSame("keep() that fails", picture(s), before);
        due("give(2, 7), which is its number", s.give(2, 7), true);
    }

    /** 0 and 1 are one in 0 .. 5 and their sum is at most 7, 2 is 7, 3 is free. */
    private static SpanRows ofEachSort() {
        SpanRows s = withNames(4);
        s.equal(0, 1);
        s.span(0, 0, 5);
        s.give(2, 7);
        keepOf(s, 0, 7, 0, 1);
        s.mark();
        return s;
    }

    @Says(in = "Terms", words = "what is told there of a row: that is taken all the same")
    static void rowOfAKeepThatFailsIsTaken() {
        SpanRows s = withNumbers(3);
        due("keep() that fails", keepOf(s, 1, 4, 0), 0);
        due("count(3)", s.count(3), 0);
        due("put() into the row after that", s.put(0, 1), 1);
    }

    @Says(in = "Terms", words = "THE ROW has at most 32 names")
    static void rowHas32Names() {
        SpanRows s = withNumbers(1);
        putTimes(s, 0, 40);
        due("count(3)", s.count(3), 32);
        due("the sum of 32 ones is 32", s.keep(1, 32), 1);
        due("kept(0, 1)", s.kept(0, 1), 32);
    }

    @Says(in = "Terms", words = "each with a factor")
    static void eachPlaceHasItsOwnFactor() {
        SpanRows s = withNumbers(1);
        for (int i = 0; i < 32; i++) {
            s.put(0, 1L << i);
        }
        due("the sum of 32 factors", s.keep(1, (1L << 32) - 1), 1);
        s.put(0, LEAST);
        due("the least as a factor", s.keep(1, LEAST), 1);
        s.put(0, GREATEST);
        due("the greatest as a factor", s.keep(1, GREATEST), 1);
        s.put(0, 0);
        due("0 as a factor", s.keep(1, 0), 1);
    }

    @Says(in = "Terms", words = "What TAKES it leaves it empty, whatever it answers.")
    static void keepTakesTheRowWhateverItAnswers() {
        SpanRows s = withNumbers(3);
        due("keep() 1", keepOf(s, 1, 3, 0), 1);
        due("count(3) after 1", s.count(3), 0);
        due("keep() 0", keepOf(s, 1, 4, 0), 0);
        due("count(3) after 0", s.count(3), 0);
        due("keep() of no kind", keepOf(s, 3, 3, 0), NONE);
        due("count(3) after NONE for the kind", s.count(3), 0);
        SpanRows full = withKept(1, 60);
        due("keep() with 60 kept", keepOf(full, 2, 0, 0), NONE);
        due("count(3) after NONE for 60", full.count(3), 0);
    }

    @Says(in = "Terms", words = "What TAKES it leaves it empty, whatever it answers.")
    static void labelTakesTheRowWhateverItAnswers() {
        SpanRows s = withSpans(10, 1, 1);
        due("label() 1", labelOf(s, 0, 1), 1);
        due("count(3) after 1", s.count(3), 0);
        due("label() -2", labelOf(s, 0, 1, 2, 3, 4, 5, 6, 7, 8), -2);
        due("count(3) after -2", s.count(3), 0);
        int x = s.name();
        due("label() NONE", labelOf(s, x), NONE);
        due("count(3) after NONE", s.count(3), 0);
        s.span(x, 1, 9999);
        due("label() -4", labelOf(s, x), -4);
        due("count(3) after -4", s.count(3), 0);
        keepOf(s, 0, 0, x);
        due("label() -3", labelOf(s, x), -3);
        due("count(3) after -3", s.count(3), 0);
        keepOf(s, 1, 2, 0);
        due("label() 0", labelOf(s, 0), 0);
        due("count(3) after 0", s.count(3), 0);
    }
}
