/** Promises 9 to 13: each sentence that names a boundary case, with the case just inside it and the case just outside it. */
public final class EveningBoundaries extends Boundary {
    /** Person 0 says saying 0 by grain 0 up to second 5; person 1 may answer it by grain 1. */
    private static final String ANSWER = "p1;p9;g5;g9;w0,5,1,99;w1,5,1,0;";

    public static void main(String[] arguments) {
        run(EveningBoundaries.class, arguments);
    }

    // ---- promise 9, take

    @Words("One can TAKE a GRAIN out of THE SHAKER")
    static void promise9_outOfTheShaker() {
        WhileSaltMelts x = laid("p1;p1;g1;g1;g1;");
        due("grain 1", x.take(0, 1), 1);
        due("shaker", x.count(5), 5);
        x.pass(1);
        due("grain 1 again", x.take(1, 1), NO);
        due("grain 0", x.take(1, 0), 2);
        x.pass(1);
        due("grain 0 again", x.take(0, 0), NO);
        due("grain 2, the last", x.take(0, 2), 3);
        due("shaker", x.count(5), 0);
        x.pass(2);
        for (int g = 0; g < 3; g++) {
            due("grain " + g, x.take(1, g), NO);
        }
    }

    @Words("if no GRAIN melts on any tongue")
    static void promise9_noGrainMelts() {
        WhileSaltMelts x = laid("p5;p1;g2;g1;g1;");
        x.take(0, 0);
        due("another at 0", x.take(1, 1), NO);
        due("himself at 0", x.take(0, 1), NO);
        passTo(x, 9);
        due("another at 9", x.take(1, 1), NO);
        passTo(x, 10);
        due("another at 10", x.take(1, 1), 11);
        due("a third at 10", x.take(0, 2), NO);
    }

    @Words("and he has not to LISTEN")
    static void promise9_notToListen() {
        WhileSaltMelts x = laid("p5;p1;g2;g1;g1;");
        x.take(0, 0);
        passTo(x, 10);
        due("who listens", x.take(0, 1), NO);
        due("who does not", x.take(1, 1), 11);
        passTo(x, 12);
        due("who has listened for as long", x.take(1, 2), 13);
    }

    @Words("when it has he has to LISTEN for as many seconds again (he may TAKE one at that very second)")
    static void promise9_atThatVerySecond() {
        WhileSaltMelts x = laid("p5;g2;g1;");
        x.take(0, 0);
        due("listens until", x.person(0, 2), 20);
        passTo(x, 19);
        due("a second ahead", x.take(0, 1), NO);
        passTo(x, 20);
        due("at that second", x.take(0, 1), 25);
        due("listens until", x.person(0, 2), 30);
        // not taken at 0 alone
        x = laid("p1;g1;g1;");
        x.pass(7);
        x.take(0, 0);
        passTo(x, 8);
        due("a second ahead", x.take(0, 1), NO);
        passTo(x, 9);
        due("at that second", x.take(0, 1), 10);
        // as many seconds as it melted, though he is drier since
        x = laid("p1;g3;g1;d0,9;");
        x.take(0, 0);
        passTo(x, 3);
        x.eat(0);
        passTo(x, 5);
        due("a second ahead", x.take(0, 1), NO);
        passTo(x, 6);
        due("at that second", x.take(0, 1), 11);
    }

    @Words("A GRAIN is TAKEN: the second when it has melted.")
    static void promise9_whenItHasMelted() {
        WhileSaltMelts x = laid("p1;p9;g1;g9;");
        due("1 second", x.take(0, 0), 1);
        x.pass(1);
        due("81 seconds", x.take(1, 1), 82);
        x = laid("p9;g9;");
        passTo(x, 9999);
        due("at 9999", x.take(0, 0), 10080);
    }

    @Words("BAD: a number is none that is told (PERSONS, GRAINS .. such as there are)")
    static void promise9_badNumbers() {
        WhileSaltMelts x = new WhileSaltMelts();
        due("person -1", x.take(-1, 0), BAD);
        due("person 2 of 2", x.take(2, 0), BAD);
        due("grain -1", x.take(0, -1), BAD);
        due("grain 2 of 2", x.take(0, 2), BAD);
        due("most", x.take(MOST, MOST), BAD);
        due("least", x.take(LEAST, LEAST), BAD);
        due("person 1, grain 1", x.take(1, 1), 30);
        x = laid(times(5, "p1;") + times(8, "g1;"));
        due("person 5 of 5", x.take(5, 7), BAD);
        due("grain 8 of 8", x.take(4, 8), BAD);
        due("person 4, grain 7", x.take(4, 7), 1);
    }

    @Words("Of several the first in this order")
    static void promise9_badAheadOfNo() {
        WhileSaltMelts x = new WhileSaltMelts();
        x.take(0, 0);
        due("while one melts", x.take(1, 1), NO);
        due("no person", x.take(2, 1), BAD);
        due("no grain", x.take(1, 2), BAD);
        due("taken, no person", x.take(-1, 0), BAD);
        due("taken", x.take(1, 0), NO);
    }

    @Words("nothing changes then")
    static void promise9_refusedChangesNothing() {
        refused("no person", x -> x.pass(1), x -> x.take(2, 0), BAD);
        refused("no grain", x -> x.pass(1), x -> x.take(0, 3), BAD);
        refused("while one melts", x -> x.take(0, 0), x -> x.take(1, 1), NO);
        refused("who listens", x -> {
            x.take(0, 0);
            x.pass(12);
        }, x -> x.take(0, 1), NO);
        refused("taken", x -> {
            x.take(0, 0);
            x.pass(24);
        }, x -> x.take(0, 0), NO);
        // whose grain it is stays so
        WhileSaltMelts x = laid(SMALL);
        x.take(0, 0);
        x.take(1, 1);
        due("his", x.say(0), 10);
    }

    // ---- promise 10, say

    @Words("it MELTS from this second on")
    static void promise10_fromThisSecondOn() {
        WhileSaltMelts x = laid("p1;g1;w0,1,1,99;");
        passTo(x, 3);
        due("ahead of it", x.say(0), NO);
        x.take(0, 0);
        due("at that second", x.say(0), 4);
    }

    @Words("While it melts he can SAY")
    static void promise10_whileItMelts() {
        WhileSaltMelts x = laid("p1;g3;g3;w0,1,1,99;w0,1,1,99;");
        due("no grain", x.say(0), NO);
        x.take(0, 0);
        passTo(x, 2);
        due("a second ahead of its end", x.say(0), 3);
        due("when it has melted", x.say(1), NO);
        passTo(x, 4);
        due("while he listens", x.say(1), NO);
        passTo(x, 6);
        due("when he has listened", x.say(1), NO);
        x.take(0, 1);
        due("by another grain", x.say(1), 7);
    }

    @Words("a SAYING of his")
    static void promise10_aSayingOfHis() {
        WhileSaltMelts x = laid("p9;p9;g9;g9;w0,1,1,99;w1,1,1,99;");
        x.take(1, 0);
        due("another's", x.say(0), NO);
        due("his", x.say(1), 1);
        passTo(x, 81);
        x.take(0, 1);
        due("his", x.say(0), 82);
        x = laid("p9;p9;g9;w0,1,1,99;w1,1,1,99;");
        x.take(0, 0);
        due("another's", x.say(1), NO);
        due("his", x.say(0), 1);
    }

    @Words("that is not said yet")
    static void promise10_notSaidYet() {
        WhileSaltMelts x = laid("p9;g9;g9;w0,1,1,99;w0,1,1,99;");
        x.take(0, 0);
        due("the first time", x.say(0), 1);
        due("again", x.say(0), NO);
        due("another", x.say(1), 2);
        passTo(x, 162);
        x.take(0, 1);
        due("by another grain", x.say(0), NO);
        // by one grain all that fit
        x = laid("p9;g1;" + times(7, "w0,1,1,99;"));
        x.take(0, 0);
        for (int s = 0; s < 7; s++) {
            due("saying " + s, x.say(s), s + 1);
        }
        due("said", x.count(6), 127);
    }

    @Words("if it ends no later than the GRAIN has melted")
    static void promise10_endsNoLater() {
        WhileSaltMelts x = laid("p2;g5;w0,10,1,99;w0,11,1,99;");
        x.take(0, 0);
        due("11 of 10 seconds", x.say(1), NO);
        due("10 of 10 seconds", x.say(0), 10);
        x = laid("p2;g5;w0,7,1,99;w0,8,1,99;");
        x.take(0, 0);
        x.pass(3);
        due("8 of the 7 that are left", x.say(1), NO);
        due("7 of the 7 that are left", x.say(0), 10);
        x = laid("p9;g9;w0,60,1,99;w0,21,1,99;w0,22,1,99;");
        x.take(0, 0);
        x.say(0);
        due("22 of 21", x.say(2), NO);
        due("21 of 21", x.say(1), 81);
    }

    @Words("and what it answers, if anything, has been said")
    static void promise10_whatItAnswersHasBeenSaid() {
        WhileSaltMelts x = laid(ANSWER);
        x.take(1, 1);
        due("not said", x.say(1), NO);
        x = laid(ANSWER);
        x.take(0, 0);
        x.say(0);
        x.take(1, 1);
        due("said", x.say(1), 10);
        x = laid("p1;p9;g5;g9;w0,5,1,99;w1,5,1,99;");
        x.take(1, 1);
        due("answers none", x.say(1), 5);
        // another one of his that is said does not do
        x = laid("p9;p9;g1;g1;w0,1,1,99;w0,1,1,99;w1,1,1,0;w1,1,1,1;");
        x.take(0, 0);
        x.say(1);
        passTo(x, 9);
        x.take(1, 1);
        due("0 is not said", x.say(2), NO);
        due("1 is said", x.say(3), 10);
        // undone it is not said
        x = laid(ANSWER);
        x.take(0, 0);
        x.say(0);
        x.undo();
        x.pass(5);
        x.take(1, 1);
        due("undone", x.say(1), NO);
    }

    private static void answer(String text, int behind, boolean inTime) {
        WhileSaltMelts x = laid(text);
        x.take(0, 0);
        due("what it answers", x.say(0), 5);
        passTo(x, 5 + behind);
        x.take(1, 1);
        due("answer " + behind + " behind by " + text, x.say(1), inTime ? 10 + behind : NO);
    }

    @Words("ended W seconds ahead of now at most")
    static void promise10_windowAtMost() {
        answer(ANSWER + "a1;", 1, true);
        answer(ANSWER + "a1;", 2, false);
        answer(ANSWER + "a50;", 49, true);
        answer(ANSWER + "a50;", 50, true);
        answer(ANSWER + "a50;", 51, false);
    }

    @Words("aW an answer has to begin W seconds (0 to 99) at most behind the end of what it answers")
    static void promise10_windowZeroToNinetyNine() {
        answer(ANSWER + "a0;", 0, true);
        answer(ANSWER + "a0;", 1, false);
        answer(ANSWER + "a99;", 99, true);
        answer(ANSWER + "a99;", 100, false);
    }

    @Words("20 without")
    static void promise10_windowTwentyWithout() {
        answer(ANSWER, 20, true);
        answer(ANSWER, 21, false);
        answer("a30;" + ANSWER, 21, true);
        // without again, behind a text that had one
        WhileSaltMelts x = laid("a30;p1;g1;");
        tell(x, ANSWER);
        x.lay();
        x.take(0, 0);
        x.say(0);
        passTo(x, 26);
        x.take(1, 1);
        due("21 behind", x.say(1), NO);
    }

    @Words("of several such the last one counts")
    static void promise10_lastWindowCounts() {
        answer("a9;" + ANSWER + "a3;", 3, true);
        answer("a9;" + ANSWER + "a3;", 4, false);
        answer("a3;" + ANSWER + "a9;", 9, true);
        answer("a3;" + ANSWER + "a9;", 10, false);
        answer("a0;" + ANSWER + "a9;a20;", 20, true);
        answer("a0;" + ANSWER + "a9;a20;", 21, false);
    }

    @Words("(now: as the answer begins)")
    static void promise10_asTheAnswerBegins() {
        // it ends later than the seconds it has, but begins within them
        String text = "p1;p9;g5;g9;w0,5,1,99;w1,60,1,0;a2;";
        for (int behind = 2; behind <= 3; behind++) {
            WhileSaltMelts x = laid(text);
            x.take(0, 0);
            x.say(0);
            x.take(1, 1);
            passTo(x, 5 + behind);
            due("begins " + behind + " behind", x.say(1), behind == 2 ? 67 : NO);
        }
        // not as the grain is taken: that was in time
        WhileSaltMelts x = laid("p1;p9;g5;g9;w0,5,1,99;w1,5,1,0;w1,3,1,99;a2;");
        x.take(0, 0);
        x.say(0);
        x.take(1, 1);
        x.say(2);
        due("begins 3 behind", x.say(1), NO);
    }

    @Words("it is L seconds later then")
    static void promise10_lSecondsLater() {
        WhileSaltMelts x = laid("p9;g9;w0,1,1,99;w0,60,1,99;");
        x.take(0, 0);
        due("1 second", x.say(0), 1);
        due("second", x.count(4), 1);
        due("60 seconds", x.say(1), 61);
        due("second", x.count(4), 61);
        // that it is above 9999 then refuses no saying, only what goes by behind it
        x = laid("p9;g9;w0,60,1,99;");
        passTo(x, 9999);
        x.take(0, 0);
        due("at 9999", x.say(0), 10059);
        due("pass", x.pass(1), NO);
        due("undo", x.undo(), 7);
        due("second", x.count(4), 9999);
    }

    @Words("BAD: a number is none that is told .. SAYINGS .. such as there are)")
    static void promise10_badNumbers() {
        WhileSaltMelts x = laid("p9;g9;" + times(7, "w0,1,1,99;"));
        x.take(0, 0);
        due("saying -1", x.say(-1), BAD);
        due("saying 7 of 7", x.say(7), BAD);
        due("saying 99", x.say(99), BAD);
        due("saying most", x.say(MOST), BAD);
        due("saying least", x.say(LEAST), BAD);
        due("saying 6 of 7", x.say(6), 1);
        due("saying 0 of 7", x.say(0), 2);
        x = laid("p9;g9;");
        x.take(0, 0);
        due("saying 0 of none", x.say(0), BAD);
    }

    @Words("Of several the first in this order")
    static void promise10_badAheadOfNo() {
        WhileSaltMelts x = new WhileSaltMelts();
        due("no grain melts", x.say(1), NO);
        due("no saying, no grain melts", x.say(2), BAD);
        due("no saying, no grain melts", x.say(-1), BAD);
    }

    @Words("nothing changes then")
    static void promise10_refusedChangesNothing() {
        refused("no saying", x -> x.take(0, 0), x -> x.say(3), BAD);
        refused("no grain", x -> x.pass(1), x -> x.say(0), NO);
        refused("another's", x -> x.take(0, 0), x -> x.say(1), NO);
        refused("said", x -> {
            x.take(0, 0);
            x.say(0);
        }, x -> x.say(0), NO);
        refused("too long", x -> {
            x.take(0, 0);
            x.pass(3);
        }, x -> x.say(0), NO);
        refused("not answered", x -> x.take(1, 1), x -> x.say(1), NO);
    }

    // ---- promise 11, pass

    @Words("n SECONDS (1 to 600) go by: the second.")
    static void promise11_oneToSixHundred() {
        WhileSaltMelts x = new WhileSaltMelts();
        due("0", x.pass(0), BAD);
        due("1", x.pass(1), 1);
        due("600", x.pass(600), 601);
        due("601", x.pass(601), BAD);
        due("-1", x.pass(-1), BAD);
        due("most", x.pass(MOST), BAD);
        due("least", x.pass(LEAST), BAD);
        due("second", x.count(4), 601);
    }

    @Words("NO: above 9999.")
    static void promise11_aboveLastSecond() {
        WhileSaltMelts x = new WhileSaltMelts();
        passTo(x, 9998);
        due("to 10000", x.pass(2), NO);
        due("to 9999", x.pass(1), 9999);
        due("to 10000", x.pass(1), NO);
        due("second", x.count(4), 9999);
        x = new WhileSaltMelts();
        passTo(x, 9400);
        due("to 10000 by 600", x.pass(600), NO);
        due("to 9999 by 599", x.pass(599), 9999);
        x = new WhileSaltMelts();
        passTo(x, 9399);
        due("to 9999 by 600", x.pass(600), 9999);
    }

    @Words("Of several the first in this order")
    static void promise11_badAheadOfNo() {
        WhileSaltMelts x = new WhileSaltMelts();
        passTo(x, 9999);
        due("1", x.pass(1), NO);
        due("600", x.pass(600), NO);
        due("0", x.pass(0), BAD);
        due("601", x.pass(601), BAD);
        due("most", x.pass(MOST), BAD);
    }

    @Words("nothing changes then")
    static void promise11_refusedChangesNothing() {
        refused("0", x -> x.take(0, 0), x -> x.pass(0), BAD);
        refused("601", x -> x.take(0, 0), x -> x.pass(601), BAD);
        refused("above 9999", x -> {
            passTo(x, 9999);
            x.keep();
        }, x -> x.pass(1), NO);
    }

    // ---- promise 12, eat

    @Words("A DISH, each once")
    static void promise12_eachOnce() {
        WhileSaltMelts x = laid("p5;g1;d0,6;d0,6;d0,5;");
        due("once", x.eat(1), 6);
        due("twice", x.eat(1), NO);
        due("another, the same", x.eat(0), 7);
        due("twice", x.eat(0), NO);
        due("of no effect, once", x.eat(2), 7);
        due("of no effect, twice", x.eat(2), NO);
        due("eaten", x.count(7), 7);
    }

    @Words("can be eaten by its PERSON while no GRAIN melts")
    static void promise12_whileNoGrainMelts() {
        WhileSaltMelts x = laid("p5;p5;g1;d0,6;d1,6;");
        x.take(0, 0);
        due("his at 0", x.eat(0), NO);
        due("another's at 0", x.eat(1), NO);
        passTo(x, 4);
        due("his at 4", x.eat(0), NO);
        due("another's at 4", x.eat(1), NO);
        passTo(x, 5);
        due("his at 5, while he listens", x.eat(0), 6);
        due("another's at 5", x.eat(1), 6);
    }

    @Words("from then on his mouth is so much drier")
    static void promise12_fromThenOn() {
        WhileSaltMelts x = laid("p3;p3;g2;g2;d0,9;");
        due("ahead of it", x.take(0, 0), 6);
        passTo(x, 12);
        due("his listening ahead of it", x.person(0, 2), 12);
        due("eat", x.eat(0), 7);
        due("his listening stays", x.person(0, 2), 12);
        due("another is as dry as he was", x.person(1, 0), 3);
        due("behind it", x.take(0, 1), 26);
        due("listens", x.person(0, 2), 40);
    }

    @Words("by E less 5 (E 0 to 9) drier")
    static void promise12_eLessFive() {
        for (int e = 0; e <= 9; e++) {
            WhileSaltMelts x = laid("p6;p5;g1;d0," + e + ";d1," + e + ";");
            due("6 dry by " + e, x.eat(0), Math.min(9, e + 1));
            due("5 dry by " + e, x.eat(1), Math.max(1, e));
        }
    }

    @Words("within 1 and 9")
    static void promise12_withinOneAndNine() {
        int[][] dishes = {{3, 3, 1}, {3, 2, 1}, {2, 3, 1}, {1, 4, 1}, {6, 0, 1}, {5, 0, 1}, {1, 0, 1}, {2, 4, 1}, {3, 4, 2},
            {7, 7, 9}, {7, 8, 9}, {8, 7, 9}, {9, 6, 9}, {5, 9, 9}, {6, 9, 9}, {9, 9, 9}, {8, 6, 9}, {7, 6, 8}, {1, 9, 5}, {9, 0, 4}};
        for (int[] dish : dishes) {
            due(dish[0] + " dry by " + dish[1], laid("p" + dish[0] + ";g1;d0," + dish[1] + ";").eat(0), dish[2]);
        }
        // what is beyond is lost: the next one counts from 1, from 9
        WhileSaltMelts x = laid("p2;g1;d0,0;d0,7;");
        due("down", x.eat(0), 1);
        due("up", x.eat(1), 3);
        x = laid("p8;g1;d0,9;d0,3;");
        due("up", x.eat(0), 9);
        due("down", x.eat(1), 7);
        // undone, it is as before, not by as much back
        x = laid("p2;g1;d0,0;");
        x.eat(0);
        x.undo();
        due("undone", x.person(0, 0), 2);
    }

    @Words("BAD: a number is none that is told .. DISHES: such as there are)")
    static void promise12_badNumbers() {
        WhileSaltMelts x = laid("p5;g1;" + times(4, "d0,5;"));
        due("dish -1", x.eat(-1), BAD);
        due("dish 4 of 4", x.eat(4), BAD);
        due("dish most", x.eat(MOST), BAD);
        due("dish least", x.eat(LEAST), BAD);
        due("dish 3 of 4", x.eat(3), 5);
        due("dish 0 of 4", x.eat(0), 5);
        due("dish 0 of none", laid("p5;g1;").eat(0), BAD);
        due("dish 1 of 1", laid("p5;g1;d0,5;").eat(1), BAD);
    }

    @Words("Of several the first in this order")
    static void promise12_badAheadOfNo() {
        WhileSaltMelts x = laid("p5;g1;d0,5;");
        x.take(0, 0);
        due("while one melts", x.eat(0), NO);
        due("no dish, while one melts", x.eat(1), BAD);
        due("no dish, while one melts", x.eat(-1), BAD);
    }

    @Words("nothing changes then")
    static void promise12_refusedChangesNothing() {
        refused("no dish", x -> x.pass(1), x -> x.eat(2), BAD);
        refused("while one melts", x -> x.take(0, 0), x -> x.eat(0), NO);
        refused("eaten", x -> x.eat(0), x -> x.eat(0), NO);
    }

    // ---- promise 13, undo

    @Words("UNDONE is the latest take()")
    static void promise13_takeUndone() {
        WhileSaltMelts x = laid(SMALL);
        x.take(0, 1);
        due("undo", x.undo(), 0);
        due("shaker", x.count(5), 7);
        due("listens", x.person(0, 2), 0);
        due("no grain to say by", x.say(0), NO);
        due("no grain melts", x.eat(0), 4);
        x.undo();
        due("take", x.take(1, 1), 30);
        // the grain ahead of it is whose it was, and melts as it did
        x = laid("p9;p1;g1;g9;w0,9,1,99;w0,1,1,99;");
        x.take(0, 0);
        x.pass(9);
        x.take(1, 1);
        x.undo();
        x.undo();
        due("8 seconds more", x.say(0), 9);
    }

    @Words("UNDONE is the latest take(), say()")
    static void promise13_sayUndone() {
        WhileSaltMelts x = laid(SMALL);
        x.take(0, 0);
        x.say(0);
        due("undo", x.undo(), 1);
        due("second", x.count(4), 0);
        due("said", x.count(6), 0);
        due("ended", x.saying(0, 4), NONE);
        due("share", x.person(0, 1), 0);
        due("say again", x.say(0), 10);
    }

    @Words("UNDONE is the latest take(), say(), pass()")
    static void promise13_passUndone() {
        WhileSaltMelts x = laid(SMALL);
        x.pass(600);
        x.pass(1);
        due("undo", x.undo(), 1);
        due("second", x.count(4), 600);
        due("undo", x.undo(), 0);
        due("second", x.count(4), 0);
    }

    @Words("UNDONE is the latest take(), say(), pass(), eat()")
    static void promise13_eatUndone() {
        WhileSaltMelts x = laid(SMALL);
        x.eat(0);
        x.eat(1);
        due("undo", x.undo(), 1);
        due("eaten", x.count(7), 1);
        due("as dry as before", x.person(1, 0), 5);
        due("drier", x.person(0, 0), 4);
        due("undo", x.undo(), 0);
        due("eaten", x.count(7), 0);
        due("as dry as before", x.person(0, 0), 3);
        due("eat again", x.eat(1), 4);
    }

    @Words("take(), say(), pass(), eat()")
    static void promise13_noOtherCallIsUndone() {
        WhileSaltMelts x = laid(SMALL);
        x.pass(5);
        x.write(1, 'x');
        x.wipe();
        x.write(1, 'y');
        x.keep();
        x.match(-1);
        x.dish(0, 1);
        x.lay();
        due("one", x.count(8), 1);
        due("undo", x.undo(), 0);
        due("second", x.count(4), 0);
        due("bytes", x.count(10), 1);
        due("kept", x.count(9), 1);
        due("undo", x.undo(), NO);
    }

    @Words("(the last 8 can be)")
    static void promise13_lastEight() {
        for (int calls = 7; calls <= 9; calls++) {
            WhileSaltMelts x = new WhileSaltMelts();
            for (int n = 1; n <= calls; n++) {
                x.pass(n);
            }
            int can = Math.min(8, calls);
            due("of " + calls, x.count(8), can);
            for (int left = can - 1; left >= 0; left--) {
                due("undo of " + calls, x.undo(), left);
            }
            due("one more of " + calls, x.undo(), NO);
            due("second", x.count(4), calls == 9 ? 1 : 0);
        }
        // each time 8 again, however many there were
        WhileSaltMelts x = new WhileSaltMelts();
        for (int n = 1; n <= 20; n++) {
            x.pass(n);
        }
        x.undo();
        x.undo();
        due("six", x.count(8), 6);
        x.pass(100);
        x.pass(200);
        x.pass(300);
        due("eight", x.count(8), 8);
        int[] seconds = {471, 271, 171, 153, 136, 120, 105, 91};
        for (int k = 0; k < 8; k++) {
            due("undo", x.undo(), 7 - k);
            due("second", x.count(4), seconds[k]);
        }
        due("a ninth", x.undo(), NO);
    }

    @Words("UNDONE: how many more can be. NO.")
    static void promise13_howManyMore() {
        WhileSaltMelts x = new WhileSaltMelts();
        due("of none", x.undo(), NO);
        x.pass(1);
        due("of one", x.undo(), 0);
        due("of none", x.undo(), NO);
        x.pass(1);
        x.pass(1);
        due("of two", x.undo(), 1);
        due("of one", x.undo(), 0);
        due("of none", x.undo(), NO);
        due("second", x.count(4), 0);
    }

    @Words("nothing changes then")
    static void promise13_refusedChangesNothing() {
        refused("nothing to be undone", x -> {
            x.pass(1);
            x.keep();
            x.take(0, 0);
            x.undo();
            x.undo();
        }, x -> x.undo(), NO);
        // what was refused is none of the latest
        WhileSaltMelts x = laid(SMALL);
        x.pass(3);
        due("take", x.take(0, 3), BAD);
        due("say", x.say(0), NO);
        due("say", x.say(3), BAD);
        due("pass", x.pass(601), BAD);
        due("eat", x.eat(2), BAD);
        due("one", x.count(8), 1);
        due("undo", x.undo(), 0);
        due("second", x.count(4), 0);
    }
}
