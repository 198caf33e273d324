/** Promises 14 to 18: each sentence that names a boundary case, with the case just inside it and the case just outside it. */
public final class BestBoundaries extends Boundary {
    public static void main(String[] arguments) {
        run(BestBoundaries.class, arguments);
    }

    // ---- promise 14, best

    private static void best(WhileSaltMelts x, int i, int g, int set, int worth) {
        due("best of " + i + " by " + g, x.best(i, g, 0), set);
        due("its worth", x.best(i, g, 1), worth);
    }

    @Words("BEST for a PERSON and a GRAIN, whether it is in THE SHAKER or not")
    static void promise14_inTheShakerOrNot() {
        WhileSaltMelts x = laid("p2;g5;g1;w0,10,7,99;w0,2,3,99;");
        best(x, 0, 0, 1, 7);
        best(x, 0, 1, 2, 3);
        x.take(0, 0);
        due("shaker", x.count(5), 2);
        best(x, 0, 0, 1, 7);
        best(x, 0, 1, 2, 3);
    }

    @Words("of sets of SAYINGS (bits) of his")
    static void promise14_ofHis() {
        WhileSaltMelts x = laid("p9;p9;p9;g9;w0,1,5,99;w1,1,50,99;w0,1,1,1;");
        best(x, 0, 0, 5, 6);
        best(x, 1, 0, 2, 50);
        best(x, 2, 0, 0, 0);
    }

    @Words("not said yet")
    static void promise14_notSaidYet() {
        WhileSaltMelts x = laid("p9;g9;w0,1,5,99;w0,1,4,99;");
        x.take(0, 0);
        best(x, 0, 0, 3, 9);
        x.say(0);
        best(x, 0, 0, 2, 4);
        x.say(1);
        best(x, 0, 0, 0, 0);
        x.undo();
        best(x, 0, 0, 2, 4);
    }

    @Words("together no longer than it MELTS for him")
    static void promise14_noLongerThanItMelts() {
        best(laid("p2;g5;w0,10,7,99;"), 0, 0, 1, 7);
        best(laid("p2;g5;w0,11,7,99;"), 0, 0, 0, 0);
        best(laid("p2;g5;w0,4,7,99;w0,6,3,99;"), 0, 0, 3, 10);
        best(laid("p2;g5;w0,4,7,99;w0,7,3,99;"), 0, 0, 1, 7);
        // all seven of them
        best(laid("p9;g9;" + times(6, "w0,11,99,99;") + "w0,15,99,99;"), 0, 0, 127, 693);
        best(laid("p9;g9;" + times(6, "w0,11,99,99;") + "w0,16,98,99;"), 0, 0, 63, 594);
        best(laid("p1;g1;w0,1,2,99;"), 0, 0, 1, 2);
        best(laid("p1;g1;w0,2,2,99;"), 0, 0, 0, 0);
    }

    @Words("MELTS for him now")
    static void promise14_now() {
        WhileSaltMelts x = laid("p2;p1;g5;w0,15,7,99;w0,16,8,99;d0,6;d0,4;");
        best(x, 0, 0, 0, 0);
        x.eat(0);
        best(x, 0, 0, 1, 7);
        x.eat(1);
        best(x, 0, 0, 0, 0);
    }

    @Words("that of most worth")
    static void promise14_ofMostWorth() {
        best(laid("p1;g9;w0,9,3,99;w0,9,4,99;"), 0, 0, 2, 4);
        best(laid("p1;g9;w0,9,4,99;w0,9,3,99;"), 0, 0, 1, 4);
        best(laid("p1;g9;w0,4,1,99;w0,5,2,99;w0,9,4,99;"), 0, 0, 4, 4);
        best(laid("p1;g9;w0,4,2,99;w0,5,3,99;w0,9,4,99;"), 0, 0, 3, 5);
    }

    @Words("of several the lowest")
    static void promise14_ofSeveralTheLowest() {
        best(laid("p1;g9;w0,9,3,99;w0,9,3,99;"), 0, 0, 1, 3);
        best(laid("p1;g9;w0,9,3,99;w0,9,4,99;"), 0, 0, 2, 4);
        // a set of two is lower than a higher one alone, and none of no worth is put in
        best(laid("p1;g9;w0,4,1,99;w0,5,2,99;w0,9,3,99;"), 0, 0, 3, 3);
        best(laid("p1;g9;w0,9,3,99;w0,4,1,99;w0,5,2,99;"), 0, 0, 1, 3);
        best(laid("p1;g9;w0,1,0,99;"), 0, 0, 0, 0);
        best(laid("p1;g9;w0,1,1,99;"), 0, 0, 1, 1);
        best(laid("p1;g9;w0,1,0,99;w0,1,1,99;"), 0, 0, 2, 1);
    }

    @Words("(what they answer is let be)")
    static void promise14_whatTheyAnswerIsLetBe() {
        WhileSaltMelts x = laid("p9;p9;g9;g9;a0;w0,1,1,99;w1,1,5,0;");
        best(x, 1, 0, 2, 5);
        x.take(0, 0);
        x.say(0);
        passTo(x, 81);
        x.take(1, 1);
        due("too late to be said", x.say(1), NO);
        best(x, 1, 0, 2, 5);
    }

    @Words("BEST: the set (what = 0), its worth (1).")
    static void promise14_ofNone() {
        WhileSaltMelts x = laid("p1;g1;");
        due("the set", x.best(0, 0, 0), 0);
        due("its worth", x.best(0, 0, 1), 0);
        due("what -1", x.best(0, 0, -1), BAD);
        due("what 2", x.best(0, 0, 2), BAD);
        due("what most", x.best(0, 0, MOST), BAD);
        due("what least", x.best(0, 0, LEAST), BAD);
    }

    @Words("BAD (a GRAIN may be taken already).")
    static void promise14_badNumbers() {
        WhileSaltMelts x = new WhileSaltMelts();
        x.take(1, 1);
        for (int what = 0; what <= 1; what++) {
            due("person -1", x.best(-1, 1, what), BAD);
            due("person 1 of 2, grain 1 of 2", x.best(1, 1, what), what == 0 ? 2 : 7);
            due("person 2 of 2", x.best(2, 1, what), BAD);
            due("grain -1", x.best(1, -1, what), BAD);
            due("grain 2 of 2", x.best(1, 2, what), BAD);
            due("most", x.best(MOST, MOST, what), BAD);
            due("least", x.best(LEAST, LEAST, what), BAD);
        }
    }

    // ---- promise 15, match

    /** The worth, then the grain of each saying. */
    private static void match(WhileSaltMelts x, int worth, int... grains) {
        due("worth", x.match(-1), worth);
        for (int s = 0; s < grains.length; s++) {
            due("match(" + s + ")", x.match(s), grains[s]);
        }
        due("match(" + grains.length + ")", x.match(grains.length), BAD);
    }

    @Words("to give GRAINS in THE SHAKER")
    static void promise15_grainsInTheShaker() {
        WhileSaltMelts x = laid("p1;g5;g5;w0,5,7,99;w0,5,6,99;");
        match(x, 13, 0, 1);
        x.take(0, 0);
        match(x, 7, 1, NONE);
        passTo(x, 10);
        x.take(0, 1);
        due("shaker", x.count(5), 0);
        match(x, 0, NONE, NONE);
        x.undo();
        match(x, 7, 1, NONE);
    }

    @Words("to SAYINGS not said yet")
    static void promise15_notSaidYet() {
        WhileSaltMelts x = laid("p1;g5;g5;g5;w0,1,7,99;w0,1,6,99;");
        x.take(0, 1);
        match(x, 13, 0, 2);
        x.say(0);
        match(x, 6, NONE, 0);
        x.say(1);
        match(x, 0, NONE, NONE);
    }

    @Words("to each one or none, no GRAIN to two")
    static void promise15_noGrainToTwo() {
        match(laid("p9;g9;w0,1,7,99;w0,1,6,99;"), 7, 0, NONE);
        match(laid("p9;g9;g9;w0,1,7,99;w0,1,6,99;"), 13, 0, 1);
        match(laid("p9;g9;g9;w0,1,7,99;"), 7, 0);
        // as many as there can be, seven of eight, and one fewer than there are
        match(laid("p1;" + times(8, "g1;") + times(7, "w0,1,99,99;")), 693, 0, 1, 2, 3, 4, 5, 6);
        match(laid("p1;" + times(6, "g1;") + times(7, "w0,1,99,99;")), 594, 0, 1, 2, 3, 4, 5, NONE);
    }

    @Words("each one MELTING for its PERSON now no fewer seconds than the SAYING is long")
    static void promise15_noFewerSeconds() {
        match(laid("p2;g5;w0,10,7,99;"), 7, 0);
        match(laid("p2;g5;w0,11,7,99;"), 0, NONE);
        match(laid("p2;g4;g5;w0,9,7,99;"), 7, 1);
        match(laid("p2;g4;g5;w0,8,7,99;"), 7, 0);
        match(laid("p9;g6;g7;w0,54,7,99;w0,55,7,99;"), 14, 0, 1);
        match(laid("p9;g6;g6;w0,54,7,99;w0,55,7,99;"), 7, 0, NONE);
        match(laid("p1;g1;w0,1,7,99;w0,2,9,99;"), 7, 0, NONE);
        // its person's, not another's
        match(laid("p1;p2;g5;w0,6,7,99;w1,6,3,99;"), 3, NONE, 0);
    }

    @Words("MELTING for its PERSON now")
    static void promise15_now() {
        WhileSaltMelts x = laid("p2;p2;g5;w0,15,7,99;w0,16,8,99;d0,6;d0,4;d1,9;");
        match(x, 0, NONE, NONE);
        x.eat(2);
        match(x, 0, NONE, NONE);
        x.eat(0);
        match(x, 7, 0, NONE);
        x.eat(1);
        match(x, 0, NONE, NONE);
    }

    @Words("that by which those that get one are worth most together")
    static void promise15_worthMostTogether() {
        match(laid("p1;g5;w0,5,7,99;w0,5,8,99;"), 8, NONE, 0);
        match(laid("p1;g5;w0,5,8,99;w0,5,7,99;"), 8, 0, NONE);
        // one grain for either: two of little worth against one of much
        match(laid("p1;p2;g2;g4;w0,4,5,99;w1,8,9,99;w0,2,4,99;"), 13, NONE, 1, 0);
        match(laid("p1;p2;g2;g4;w0,4,9,99;w1,8,8,99;w0,2,4,99;"), 13, 1, NONE, 0);
    }

    @Words("of several the first (by the GRAIN of the lowest SAYING")
    static void promise15_firstByTheLowestSaying() {
        match(laid("p1;g5;g5;w0,5,7,99;"), 7, 0);
        match(laid("p1;g4;g5;w0,5,7,99;"), 7, 1);
        match(laid("p1;g5;w0,5,7,99;w0,5,7,99;"), 7, 0, NONE);
        // the lowest goes first where that costs no worth, only there
        match(laid("p1;g9;g1;w0,1,5,99;w0,9,0,99;"), 5, 0, NONE);
        match(laid("p1;g9;g1;w0,1,5,99;w0,9,1,99;"), 6, 1, 0);
    }

    @Words("none behind all GRAINS")
    static void promise15_noneBehindAllGrains() {
        match(laid("p1;" + times(7, "g1;") + "g9;w0,9,0,99;"), 0, 7);
        match(laid("p1;" + times(8, "g1;") + "w0,9,0,99;"), 0, NONE);
        match(laid("p1;g1;g1;w0,1,0,99;w0,1,5,99;"), 5, 0, 1);
        match(laid("p1;g1;w0,1,0,99;w0,1,5,99;"), 5, NONE, 0);
        match(laid("p1;g1;w0,1,0,99;w0,1,0,99;"), 0, 0, NONE);
    }

    @Words("then of the next, ..")
    static void promise15_thenOfTheNext() {
        match(laid("p1;g1;g1;g1;w0,1,5,99;w0,1,5,99;w0,1,5,99;"), 15, 0, 1, 2);
        match(laid("p1;g2;g1;g2;w0,2,5,99;w0,1,5,99;"), 10, 0, 1);
        match(laid("p1;g1;g2;g2;w0,2,5,99;w0,1,5,99;"), 10, 1, 0);
        // the next goes first in its turn where that costs no worth, only there
        match(laid("p1;g1;g9;g2;w0,1,5,99;w0,2,5,99;w0,9,0,99;"), 10, 0, 1, NONE);
        match(laid("p1;g1;g9;g2;w0,1,5,99;w0,2,5,99;w0,9,1,99;"), 11, 0, 2, 1);
    }

    @Words("of all ways to give GRAINS in THE SHAKER to SAYINGS")
    static void promise15_asLaidAnew() {
        WhileSaltMelts x = laid("p1;" + times(7, "g1;") + "g2;" + times(6, "w0,1,9,99;") + "w0,2,9,99;");
        match(x, 63, 0, 1, 2, 3, 4, 5, 7);
        for (int sayings = 6; sayings >= 1; sayings--) {
            tell(x, "p1;g1;g2;" + times(sayings, "w0,1,9,99;"));
            x.lay();
            due("worth of " + sayings, x.match(-1), sayings == 1 ? 9 : 18);
            due("grain of 0 of " + sayings, x.match(0), 0);
            due("grain of the last of " + sayings, x.match(sayings - 1), sayings == 1 ? 0 : sayings == 2 ? 1 : NONE);
        }
        tell(x, "p1;g1;");
        x.lay();
        match(x, 0);
        // grain 0 is kept for the long one only where that is told
        x = laid("p9;g9;g1;w0,1,1,99;w0,60,9,99;");
        match(x, 10, 1, 0);
        tell(x, "p9;g9;g1;w0,1,1,99;");
        x.lay();
        match(x, 1, 0);
    }

    @Words("MATCH: the worth (s = -1), the GRAIN of a SAYING. NONE")
    static void promise15_worthGrainNone() {
        match(laid("p1;g1;"), 0);
        match(laid("p1;g1;w0,2,99,99;"), 0, NONE);
        match(laid("p1;g1;w0,1,99,99;"), 99, 0);
        match(laid("p1;" + times(8, "g1;") + "w0,1,1,99;"), 1, 0);
    }

    @Words("BAD: a number is none that is told .. SAYINGS .. such as there are)")
    static void promise15_badNumbers() {
        WhileSaltMelts x = new WhileSaltMelts();
        due("-2", x.match(-2), BAD);
        due("-1", x.match(-1), 12);
        due("0", x.match(0), 0);
        due("1 of 2", x.match(1), 1);
        due("2 of 2", x.match(2), BAD);
        due("most", x.match(MOST), BAD);
        due("least", x.match(LEAST), BAD);
        x = laid("p1;g1;" + times(7, "w0,1,1,99;"));
        due("6 of 7", x.match(6), NONE);
        due("7 of 7", x.match(7), BAD);
        due("99", x.match(99), BAD);
    }

    @Words("Of several the first in this order")
    static void promise15_badAheadOfNone() {
        WhileSaltMelts x = laid("p1;g1;w0,2,1,99;");
        due("gets none", x.match(0), NONE);
        due("no saying", x.match(1), BAD);
        due("no saying", x.match(-2), BAD);
    }

    // ---- promise 16, soonest

    private static void order(WhileSaltMelts x, int seconds, int... sayings) {
        due("soonest(-1)", x.soonest(-1), seconds);
        for (int k = 0; k < sayings.length; k++) {
            due("soonest(" + k + ")", x.soonest(k), sayings[k]);
        }
        due("soonest(" + sayings.length + ")", x.soonest(sayings.length), NONE);
    }

    @Words("those that get one by MATCH are said in some order")
    static void promise16_thoseThatGetOne() {
        order(laid("p1;p1;g1;g1;w0,1,9,99;w1,1,9,99;"), 2, 0, 1);
        order(laid("p1;p1;g1;w0,1,9,99;w1,1,9,99;"), 1, 0);
        order(laid("p1;p1;g1;w0,1,9,99;w1,1,10,99;"), 1, 1);
        order(laid("p1;p1;g1;g1;w0,2,9,99;w1,1,9,99;"), 1, 1);
        WhileSaltMelts x = laid("p9;p9;g1;g1;g1;w0,2,9,99;w1,3,9,99;");
        x.take(0, 0);
        order(x, 5, 0, 1);
        x.say(0);
        order(x, 3, 1);
    }

    @Words("an answer behind what it answers")
    static void promise16_answerBehindWhatItAnswers() {
        // 0 by 3 seconds, 1 by 2, 2 by 9: free, 1 is best said first, so that 2 has not to wait for its person
        order(laid("p1;p1;g2;g3;g9;w0,3,9,99;w1,2,9,99;w1,9,9,99;"), 14, 1, 0, 2);
        order(laid("p1;p1;g2;g3;g9;w0,3,9,99;w1,2,9,0;w1,9,9,99;"), 16, 0, 1, 2);
        // however late that is, and whether it stands right behind it or not
        order(laid("p1;p1;g2;g3;g9;a0;w0,3,9,99;w1,2,9,0;w1,9,9,99;"), 16, 0, 1, 2);
        order(laid("p1;p1;p1;g3;g5;g3;w0,3,9,99;w1,5,9,99;w2,3,9,0;"), 11, 0, 1, 2);
    }

    @Words("if that is one of them")
    static void promise16_ifThatIsOneOfThem() {
        // 0 is longer than any grain melts, and its answer is as free as one that answers none
        order(laid("p1;p1;g2;g3;g9;w0,10,9,99;w1,2,9,0;w1,9,9,99;"), 13, 1, 2);
        // 0 is said
        WhileSaltMelts x = laid("p1;p1;g3;g2;g3;g9;w0,3,9,99;w1,2,9,0;w1,9,9,99;");
        x.take(0, 0);
        order(x, 16, 0, 1, 2);
        x.say(0);
        order(x, 13, 1, 2);
    }

    @Words("each begins as soon as the one ahead of it has ended")
    static void promise16_asSoonAsTheOneAheadHasEnded() {
        order(laid("p1;p1;g5;g5;w0,4,9,99;w1,5,9,99;"), 9, 0, 1);
        order(laid("p1;p1;g5;g5;w0,5,9,99;w1,5,9,99;"), 10, 0, 1);
        order(laid("p9;p9;g9;g9;w0,60,9,99;w1,60,9,99;"), 120, 0, 1);
        order(laid("p1;p1;g1;g1;w0,1,9,99;w1,1,9,0;"), 2, 0, 1);
    }

    @Words("twice as many seconds as the last GRAIN of its PERSON MELTS have gone by since he began by that")
    static void promise16_twiceAsManySeconds() {
        order(laid("p1;g4;g6;w0,4,9,99;w0,6,9,99;"), 14, 0, 1);
        order(laid("p1;g5;g6;w0,4,9,99;w0,6,9,99;"), 16, 0, 1);
        order(laid("p9;g9;g9;w0,60,9,99;w0,60,9,99;"), 222, 0, 1);
        order(laid("p1;g1;g1;w0,1,9,99;w0,1,9,99;"), 3, 0, 1);
        // 0 to 2, then another up to 3, 4 or 5: 1 begins at 4, at 4 or at 5
        order(laid("p1;p1;g2;g5;g3;w0,2,9,99;w0,5,9,99;w1,1,9,99;"), 9, 0, 2, 1);
        order(laid("p1;p1;g2;g5;g3;w0,2,9,99;w0,5,9,99;w1,2,9,99;"), 9, 0, 2, 1);
        order(laid("p1;p1;g2;g5;g3;w0,2,9,99;w0,5,9,99;w1,3,9,99;"), 10, 0, 2, 1);
        // the last of his, and since he began by that: 0 to 2, 4 to 7, 10 to 14
        order(laid("p1;g2;g3;g4;w0,2,9,99;w0,3,9,99;w0,4,9,99;"), 14, 0, 1, 2);
    }

    @Words("(what was done up to now is let be")
    static void promise16_whatWasDoneIsLetBe() {
        WhileSaltMelts x = laid("p1;g4;g6;g9;w0,4,9,99;w0,6,9,99;");
        x.take(0, 2);
        order(x, 14, 0, 1);
        passTo(x, 10);
        order(x, 14, 0, 1);
        passTo(x, 9999);
        order(x, 14, 0, 1);
        // how dry he is now counts
        x = laid("p1;g4;g6;w0,4,9,99;w0,6,9,99;d0,6;");
        order(x, 14, 0, 1);
        x.eat(0);
        order(x, 22, 0, 1);
    }

    @Words("no GRAIN hinders another PERSON)")
    static void promise16_noGrainHindersAnother() {
        order(laid("p9;p9;g9;g9;w0,1,9,99;w1,1,9,99;"), 2, 0, 1);
        order(laid("p9;g9;g9;w0,1,9,99;w0,1,9,99;"), 163, 0, 1);
    }

    @Words("Of all orders that by which the last ends soonest")
    static void promise16_lastEndsSoonest() {
        order(laid("p1;g6;g4;w0,6,9,99;w0,3,9,99;"), 14, 1, 0);
        order(laid("p1;g6;g4;w0,6,9,99;w0,1,9,99;"), 13, 0, 1);
        // seven by one person, the longest melting last
        order(laid("p9;" + times(7, "g9;") + times(7, "w0,60,1,99;")), 1032, 0, 1, 2, 3, 4, 5, 6);
        order(laid("p1;g3;" + times(6, "g1;") + "w0,3,1,99;" + times(6, "w0,1,1,99;")), 15, 1, 2, 3, 4, 5, 6, 0);
    }

    @Words("of several the first (by the SAYING that is first, then second, ..)")
    static void promise16_ofSeveralTheFirst() {
        // 12 and 2 against 8 and 6; one second more, and the other is sooner
        order(laid("p1;g6;g4;w0,6,9,99;w0,2,9,99;"), 14, 0, 1);
        order(laid("p1;g6;g4;w0,6,9,99;w0,3,9,99;"), 14, 1, 0);
        order(laid("p1;p1;p1;g1;g1;g1;w0,1,9,99;w1,1,9,99;w2,1,9,99;"), 3, 0, 1, 2);
        // 0 first in any case; behind it 2 then 1 where 1 would wait, else 1 then 2
        order(laid("p1;p1;g1;g1;g1;w0,1,9,99;w0,1,9,99;w1,1,9,99;"), 3, 0, 2, 1);
        order(laid("p1;p1;g1;g1;g1;w0,1,9,99;w1,1,9,99;w0,1,9,99;"), 3, 0, 1, 2);
    }

    @Words("how many seconds behind the first's beginning (0: none gets one)")
    static void promise16_howManySeconds() {
        order(laid("p1;g1;"), 0);
        order(laid("p1;g1;w0,2,9,99;"), 0);
        order(laid("p1;g1;w0,1,9,99;"), 1, 0);
        order(laid("p9;g9;w0,60,9,99;"), 60, 0);
        WhileSaltMelts x = laid("p1;g1;w0,1,9,99;");
        passTo(x, 500);
        order(x, 1, 0);
        x.take(0, 0);
        order(x, 0);
    }

    @Words("SOONEST: how many seconds (i = -1), the i-th SAYING. NONE: not so many")
    static void promise16_notSoMany() {
        WhileSaltMelts x = new WhileSaltMelts();
        due("1 of 2", x.soonest(1), 1);
        due("2 of 2", x.soonest(2), NONE);
        due("most", x.soonest(MOST), NONE);
        x = laid("p1;" + times(7, "g1;") + times(7, "w0,1,1,99;"));
        due("6 of 7", x.soonest(6), 6);
        due("7 of 7", x.soonest(7), NONE);
        due("8 of 7", x.soonest(8), NONE);
        // not so many get one, though so many are told
        x = laid("p1;g1;" + times(7, "w0,1,1,99;"));
        due("0 of 1", x.soonest(0), 0);
        due("1 of 1", x.soonest(1), NONE);
        due("6 of 1", x.soonest(6), NONE);
    }

    @Words("BAD (i below -1)")
    static void promise16_badBelowMinusOne() {
        WhileSaltMelts x = new WhileSaltMelts();
        due("-1", x.soonest(-1), 30);
        due("-2", x.soonest(-2), BAD);
        due("least", x.soonest(LEAST), BAD);
        x = laid("p1;g1;");
        due("-1 of none", x.soonest(-1), 0);
        due("-2 of none", x.soonest(-2), BAD);
        due("0 of none", x.soonest(0), NONE);
    }

    // ---- promise 17, late

    @Words("how many of them begin more than W seconds behind the end of what they answer")
    static void promise17_moreThanWSeconds() {
        // 1 from 0 to 5, 0 from 5 to 6, 2 from 10: 4 seconds behind the end of 0
        String table = "p1;p1;p1;g1;g5;g9;w0,1,9,99;w1,5,9,99;w1,9,9,0;";
        order(laid(table), 19, 1, 0, 2);
        due("4 behind, 5", laid(table + "a5;").late(), 0);
        due("4 behind, 4", laid(table + "a4;").late(), 0);
        due("4 behind, 3", laid(table + "a3;").late(), 1);
        // three answers, 0, 1 and 2 seconds behind
        String answers = "p1;p1;p1;p1;" + times(4, "g1;") + "w0,1,9,99;w1,1,9,0;w2,1,9,0;w3,1,9,0;";
        order(laid(answers), 4, 0, 1, 2, 3);
        due("2 at most", laid(answers + "a2;").late(), 0);
        due("1 at most", laid(answers + "a1;").late(), 1);
        due("0 at most", laid(answers + "a0;").late(), 2);
    }

    @Words("W seconds (0 to 99)")
    static void promise17_windowZeroToNinetyNine() {
        // right behind; one second behind
        WhileSaltMelts x = laid("p1;p1;g3;g3;g9;w0,3,9,99;w1,3,9,99;w1,9,9,0;a0;");
        order(x, 15, 1, 0, 2);
        due("0 behind, 0", x.late(), 0);
        x = laid("p1;p1;g2;g3;g9;w0,2,9,99;w1,3,9,99;w1,9,9,0;a0;");
        order(x, 15, 1, 0, 2);
        due("1 behind, 0", x.late(), 1);
        // 1 from 0 to 8 or 7 by 54 seconds, 0 a second, 2 from 108
        x = laid("p1;p9;g1;g6;g9;w0,1,9,99;w1,8,9,99;w1,60,9,0;a99;");
        order(x, 168, 1, 0, 2);
        due("99 behind, 99", x.late(), 0);
        x = laid("p1;p9;g1;g6;g9;w0,1,9,99;w1,7,9,99;w1,60,9,0;a99;");
        order(x, 168, 1, 0, 2);
        due("100 behind, 99", x.late(), 1);
    }

    @Words("20 without")
    static void promise17_windowTwentyWithout() {
        // 1 from 0 to 3 or 2 by 12 seconds, 0 a second, 2 from 24
        WhileSaltMelts x = laid("p1;p3;g1;g4;g9;w0,1,9,99;w1,3,9,99;w1,27,9,0;");
        order(x, 51, 1, 0, 2);
        due("20 behind", x.late(), 0);
        x = laid("p1;p3;g1;g4;g9;w0,1,9,99;w1,2,9,99;w1,27,9,0;");
        order(x, 51, 1, 0, 2);
        due("21 behind", x.late(), 1);
    }

    @Words("that being one of them")
    static void promise17_thatBeingOneOfThem() {
        // 3 answers 0, and begins 2 seconds behind it; without 0 it answers none of them
        String rest = "w1,1,9,99;w2,1,9,99;w3,1,9,0;a0;";
        order(laid("p1;p1;p1;p1;" + times(4, "g1;") + "w0,1,9,99;" + rest), 4, 0, 1, 2, 3);
        due("one of them", laid("p1;p1;p1;p1;" + times(4, "g1;") + "w0,1,9,99;" + rest).late(), 1);
        order(laid("p1;p1;p1;p1;" + times(4, "g1;") + "w0,2,9,99;" + rest), 3, 1, 2, 3);
        due("none of them", laid("p1;p1;p1;p1;" + times(4, "g1;") + "w0,2,9,99;" + rest).late(), 0);
        // said long ago, it is none of them
        WhileSaltMelts x = laid("p1;p1;p1;p1;" + times(5, "g1;") + "w0,1,9,99;" + rest);
        x.take(0, 0);
        due("not said yet", x.late(), 1);
        x.say(0);
        passTo(x, 600);
        order(x, 3, 1, 2, 3);
        due("said", x.late(), 0);
    }

    @Words("LATE: how many of them")
    static void promise17_ofNone() {
        due("no sayings", laid("p1;g1;a0;").late(), 0);
        due("none gets one", laid("p1;p1;g1;a0;w0,2,9,99;w1,2,9,0;").late(), 0);
        due("one", laid("p1;p1;g1;a0;w0,1,9,99;w1,2,9,0;").late(), 0);
        due("none answers", laid("p1;g1;g1;a0;w0,1,9,99;w0,1,9,99;").late(), 0);
        // one who answers his answer has to listen first
        due("one of three", laid("p1;p1;g1;g1;g1;a0;w0,1,9,99;w1,1,9,0;w0,1,9,1;").late(), 0);
        due("one of three", laid("p1;p1;g2;g1;g1;a0;w0,1,9,99;w1,1,9,0;w0,1,9,1;").late(), 1);
    }

    // ---- promise 18, dish

    @Words("DISH for i against j (unlike)")
    static void promise18_unlike() {
        WhileSaltMelts x = laid("p1;p1;g5;w0,6,1,99;d0,6;");
        due("0 against 1", x.dish(0, 1), 0);
        due("1 against 0", x.dish(1, 0), NONE);
        due("0 against 0", x.dish(0, 0), BAD);
        due("1 against 1", x.dish(1, 1), BAD);
    }

    @Words("the DISH not eaten yet")
    static void promise18_notEatenYet() {
        WhileSaltMelts x = laid("p1;p1;g5;w0,11,1,99;d0,7;d0,0;");
        due("none eaten", x.dish(0, 1), 0);
        x.eat(0);
        x.eat(1);
        due("as dry as before", x.person(0, 0), 1);
        due("all eaten", x.dish(0, 1), NONE);
        x = laid("p1;p1;g5;w0,11,1,99;d0,7;d0,0;d0,8;");
        x.eat(0);
        x.eat(1);
        due("all but one eaten", x.dish(0, 1), 2);
        due("no dish", laid("p1;p1;g5;w0,11,1,99;").dish(0, 1), NONE);
    }

    @Words("behind which, were it eaten")
    static void promise18_wereItEaten() {
        // 2 dry by 5 is as long as 10 seconds
        due("as long", laid("p1;p1;g5;w0,10,1,99;d0,6;").dish(0, 1), 0);
        due("longer", laid("p1;p1;g5;w0,11,1,99;d0,6;").dish(0, 1), NONE);
        // 9 dry at most
        due("as long", laid("p8;p1;g5;w0,45,1,99;d0,9;").dish(0, 1), 0);
        due("longer", laid("p8;p1;g5;w0,46,1,99;d0,9;").dish(0, 1), NONE);
        // 1 dry at least
        due("as long still", laid("p1;p3;g5;w1,5,1,99;d1,0;").dish(0, 1), NONE);
        due("longer now", laid("p1;p3;g5;w1,6,1,99;d1,0;").dish(0, 1), 0);
        // nothing is eaten by that, and that a grain melts is no matter
        WhileSaltMelts x = laid("p1;p1;g1;g5;w0,10,1,99;d0,6;");
        x.take(1, 0);
        due("while one melts", x.dish(0, 1), 0);
        due("eaten", x.count(7), 0);
        due("as dry", x.person(0, 0), 1);
        due("undoable", x.count(8), 1);
    }

    @Words("what SAYINGS of i that get a GRAIN by MATCH are worth less what those of j are")
    static void promise18_lessWhatThoseOfJAre() {
        due("1 gets more", laid("p1;p1;g5;w1,10,1,99;d1,6;").dish(0, 1), NONE);
        due("for 1", laid("p1;p1;g5;w1,10,1,99;d1,6;").dish(1, 0), 0);
        due("1 gets less", laid("p1;p2;g5;w1,10,1,99;d1,4;").dish(0, 1), 0);
        due("for 1", laid("p1;p2;g5;w1,10,1,99;d1,4;").dish(1, 0), NONE);
        // 0 takes the grain from 1: more for 0, less for 1
        due("0 takes it from 1", laid("p1;p1;g5;w0,10,9,99;w1,5,8,99;d0,6;").dish(0, 1), 0);
        due("0 does not", laid("p1;p1;g5;w0,10,7,99;w1,5,8,99;d0,6;").dish(0, 1), NONE);
        // what a third gains or loses is no matter
        due("a third", laid("p1;p1;p1;g5;w2,10,9,99;d2,6;").dish(0, 1), NONE);
        due("for the third", laid("p1;p1;p1;g5;w2,10,9,99;d2,6;").dish(2, 1), 0);
        due("against the third", laid("p1;p1;p2;g5;w2,10,9,99;d2,4;").dish(1, 2), 0);
    }

    @Words("is greatest, of several the lowest")
    static void promise18_greatestOfSeveralTheLowest() {
        String table = "p1;p1;g5;g5;w0,10,7,99;w0,15,1,99;";
        due("the greater by one", laid(table + "d0,6;d0,7;").dish(0, 1), 1);
        due("the greater by one", laid(table + "d0,7;d0,6;").dish(0, 1), 0);
        due("as great", laid(table + "d0,7;d0,8;").dish(0, 1), 0);
        due("as great", laid(table + "d0,6;d0,8;d0,7;d0,9;").dish(0, 1), 1);
        due("the last", laid(table + "d0,5;d0,5;d0,5;d0,6;").dish(0, 1), 3);
    }

    @Words("none (not greater than as it is)")
    static void promise18_notGreaterThanAsItIs() {
        due("worth 1 more", laid("p1;p1;g5;w0,6,1,99;d0,6;").dish(0, 1), 0);
        due("worth no more", laid("p1;p1;g5;w0,6,0,99;d0,6;").dish(0, 1), NONE);
        due("worth less", laid("p2;p1;g5;w0,6,1,99;d0,4;").dish(0, 1), NONE);
        // what he gets is behind what the other gets before and behind it
        due("still behind", laid("p1;p1;g5;g5;w0,6,1,99;w1,5,50,99;d0,6;").dish(0, 1), 0);
        due("as far behind", laid("p1;p1;g5;g5;w0,6,0,99;w1,5,50,99;d0,6;").dish(0, 1), NONE);
        due("no sayings", laid("p1;p1;g5;d0,6;").dish(0, 1), NONE);
    }

    @Words("BAD: a number is none that is told (PERSONS .. such as there are)")
    static void promise18_badNumbers() {
        WhileSaltMelts x = laid(times(5, "p1;") + "g5;w4,6,1,99;d4,6;");
        due("-1", x.dish(-1, 0), BAD);
        due("against -1", x.dish(0, -1), BAD);
        due("5 of 5", x.dish(5, 0), BAD);
        due("against 5 of 5", x.dish(0, 5), BAD);
        due("most", x.dish(MOST, 0), BAD);
        due("against most", x.dish(0, MOST), BAD);
        due("least", x.dish(LEAST, MOST), BAD);
        due("4 against 0", x.dish(4, 0), 0);
        due("0 against 4", x.dish(0, 4), NONE);
        due("1 of 1", laid("p1;g1;").dish(0, 1), BAD);
    }

    @Words("Of several the first in this order")
    static void promise18_badAheadOfNone() {
        WhileSaltMelts x = new WhileSaltMelts();
        due("no dishes", x.dish(0, 1), NONE);
        due("alike, no dishes", x.dish(0, 0), BAD);
        due("no person, no dishes", x.dish(2, 1), BAD);
        due("no person, no dishes", x.dish(1, -1), BAD);
    }
}
