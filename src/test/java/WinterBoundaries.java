import java.util.List;

/** Promises 19 to 23: each sentence that names a boundary case, with the case just inside it and the case just outside it. */
public final class WinterBoundaries extends Boundary {
    /** DRAW of the first six evenings, (7919 z + 6151 k + 1) squared modulo 65521, worked out apart from the program. */
    private static final int[] DRAWS_OF_0 = {1, 41487, 10299, 37479, 57506, 4859};
    private static final int[] DRAWS_OF_9999 = {51303, 32612, 6768, 39292, 64663, 17360};
    /** One person who says for as many seconds as his grain is large, each second worth 1. */
    private static final String EIGHT_GRAINS = "p1;g1;g2;g3;g4;g5;g6;g7;g8;w0,1,1,99;w0,2,2,99;w0,4,4,99;w0,1,1,99;";
    /** Five persons, each of whom says for a second; what they say is worth 1, 2, 4, 8 and 16. */
    private static final String FIVE_PERSONS = "p1;p1;p1;p1;p1;g1;w0,1,1,99;w1,1,2,99;w2,1,4,99;w3,1,8,99;w4,1,16,99;";

    public static void main(String[] arguments) {
        run(WinterBoundaries.class, arguments);
    }

    // ---- promise 19, spoke

    private static void spoke(WhileSaltMelts x, int i, int n, int sets, int sure) {
        due("sets of " + i + " in " + n, x.spoke(i, n, 0), sets);
        due("sure of " + i + " in " + n, x.spoke(i, n, 1), sure);
    }

    @Words("how many sets there are of all GRAINS told (those taken, too)")
    static void promise19_thoseTakenToo() {
        WhileSaltMelts x = laid("p1;g1;g2;g3;");
        spoke(x, 0, 3, 2, 0);
        spoke(x, 0, 5, 1, 6);
        x.take(0, 2);
        due("shaker", x.count(5), 3);
        spoke(x, 0, 3, 2, 0);
        spoke(x, 0, 5, 1, 6);
        spoke(x, 0, 6, 1, 7);
    }

    @Words("that together MELT for a PERSON .. in n .. seconds")
    static void promise19_together() {
        WhileSaltMelts x = laid("p3;g4;g6;");
        spoke(x, 0, 11, 0, 0);
        spoke(x, 0, 12, 1, 1);
        spoke(x, 0, 13, 0, 0);
        spoke(x, 0, 18, 1, 2);
        spoke(x, 0, 29, 0, 0);
        spoke(x, 0, 30, 1, 3);
        spoke(x, 0, 31, 0, 0);
        x = laid("p1;" + times(8, "g1;"));
        spoke(x, 0, 1, 8, 0);
        spoke(x, 0, 4, 70, 0);
        spoke(x, 0, 7, 8, 0);
        spoke(x, 0, 8, 1, 255);
        spoke(x, 0, 9, 0, 0);
    }

    @Words("as dry as he was told")
    static void promise19_asDryAsTold() {
        WhileSaltMelts x = laid("p2;p1;g5;d0,6;d0,4;");
        spoke(x, 0, 10, 1, 1);
        spoke(x, 1, 5, 1, 1);
        spoke(x, 1, 10, 0, 0);
        x.eat(0);
        spoke(x, 0, 10, 1, 1);
        spoke(x, 0, 15, 0, 0);
        x.eat(1);
        x.keep();
        x.back();
        spoke(x, 0, 10, 1, 1);
    }

    @Words("in n (1 to 500) seconds")
    static void promise19_oneToFiveHundred() {
        WhileSaltMelts x = laid("p1;p7;g1;" + times(7, "g9;"));
        for (int what = 0; what <= 1; what++) {
            due("n 0", x.spoke(0, 0, what), BAD);
            due("n 1", x.spoke(0, 1, what), 1);
            due("n 500", x.spoke(1, 500, what), 0);
            due("n 501", x.spoke(1, 501, what), BAD);
            due("n -1", x.spoke(0, -1, what), BAD);
            due("n most", x.spoke(0, MOST, what), BAD);
            due("n least", x.spoke(0, LEAST, what), BAD);
        }
        spoke(x, 1, 448, 1, 255);
        // the most seconds within 500 that grains can melt in; 504 is beyond, though all eight melt in it
        spoke(laid("p7;" + times(7, "g9;") + "g8;"), 0, 497, 1, 255);
        due("n 504", laid("p7;" + times(8, "g9;")).spoke(0, 504, 0), BAD);
    }

    @Words("SURE: the GRAINS (bits) that are in each of these (0: there is none)")
    static void promise19_sure() {
        WhileSaltMelts x = laid("p1;g1;g2;g3;g4;");
        // no set, one set, two sets with one grain in both, two sets with none in both
        spoke(x, 0, 11, 0, 0);
        spoke(x, 0, 10, 1, 15);
        spoke(x, 0, 1, 1, 1);
        spoke(x, 0, 5, 2, 0);
        spoke(x, 0, 6, 2, 2);
        spoke(x, 0, 7, 2, 8);
        spoke(x, 0, 8, 1, 13);
    }

    @Words("SPOKE: how many (what = 0), SURE (1). BAD.")
    static void promise19_badWhat() {
        WhileSaltMelts x = new WhileSaltMelts();
        due("what -1", x.spoke(0, 18, -1), BAD);
        due("what 0", x.spoke(0, 18, 0), 1);
        due("what 1", x.spoke(0, 18, 1), 2);
        due("what 2", x.spoke(0, 18, 2), BAD);
        due("what most", x.spoke(0, 18, MOST), BAD);
        due("what least", x.spoke(0, 18, LEAST), BAD);
    }

    @Words("BAD: a number is none that is told (PERSONS .. such as there are)")
    static void promise19_badNumbers() {
        WhileSaltMelts x = new WhileSaltMelts();
        due("person -1", x.spoke(-1, 20, 0), BAD);
        due("person 1 of 2", x.spoke(1, 20, 0), 1);
        due("person 2 of 2", x.spoke(2, 20, 0), BAD);
        due("person most", x.spoke(MOST, 20, 0), BAD);
        due("person least", x.spoke(LEAST, 20, 0), BAD);
        x = laid(times(5, "p1;") + "g1;");
        due("person 4 of 5", x.spoke(4, 1, 0), 1);
        due("person 5 of 5", x.spoke(5, 1, 0), BAD);
    }

    // ---- promise 20, winter

    @Words("A WINTER by z (0 to 9999)")
    static void promise20_zeroToLastWinter() {
        WhileSaltMelts x = laid("p1;g1;w0,1,5,99;");
        due("z -1", x.winter(-1, 1, 0), BAD);
        due("z 0", x.winter(0, 1, 0), 1);
        due("z 9999", x.winter(9999, 1, 0), 1);
        due("z 10000", x.winter(10000, 1, 0), BAD);
        due("z most", x.winter(MOST, 1, 0), BAD);
        due("z least", x.winter(LEAST, 1, 0), BAD);
        due("z -1, worth", x.winter(-1, 1, -1), BAD);
        due("z 10000, worth", x.winter(10000, 1, -1), BAD);
    }

    @Words("of n (1 to 100) evenings")
    static void promise20_oneToHundredEvenings() {
        WhileSaltMelts x = laid("p1;g1;w0,1,5,99;");
        due("n 0", x.winter(0, 0, 0), BAD);
        due("n 1", x.winter(0, 1, 0), 1);
        due("n 100", x.winter(0, 100, 0), 100);
        due("n 101", x.winter(0, 101, 0), BAD);
        due("n most", x.winter(0, MOST, 0), BAD);
        due("n least", x.winter(0, LEAST, 0), BAD);
        due("n 0, worth", x.winter(0, 0, -1), BAD);
        due("n 1, worth", x.winter(0, 1, -1), 5);
        due("n 100, worth", x.winter(0, 100, -1), 500);
        due("n 101, worth", x.winter(0, 101, -1), BAD);
    }

    @Words("in the k-th (0 first)")
    static void promise20_fromZero() {
        // DRAW is 1 in the evening 0, 41487 in the evening 1: person 1, then 2
        WhileSaltMelts x = laid(FIVE_PERSONS);
        int[] one = {0, 1, 0, 0, 0};
        int[] two = {0, 1, 1, 0, 0};
        for (int i = 0; i < 5; i++) {
            due("one evening", x.winter(0, 1, i), one[i]);
            due("two evenings", x.winter(0, 2, i), two[i]);
        }
        // the last one of a hundred, 99, is person 6219 modulo 5
        due("up to 98, worth", x.winter(0, 100, -1) - x.winter(0, 99, -1), 16);
        due("up to 98, seconds", x.winter(0, 100, 4) - x.winter(0, 99, 4), 1);
        due("up to 98, another's", x.winter(0, 100, 3) - x.winter(0, 99, 3), 0);
    }

    @Words("DRAW being (x times x) modulo 65521, x 7919 z, 6151 k and 1 together")
    static void promise20_draw() {
        WhileSaltMelts persons = laid(FIVE_PERSONS);
        WhileSaltMelts grains = laid(EIGHT_GRAINS);
        int worthOf0 = 0;
        int worthOf9999 = 0;
        int secondsOf0 = 0;
        int secondsOf9999 = 0;
        for (int k = 0; k < 6; k++) {
            worthOf0 += 1 << DRAWS_OF_0[k] % 5;
            secondsOf0 += DRAWS_OF_0[k] / 8 % 8 + 1;
            due("persons of 0", persons.winter(0, k + 1, -1), worthOf0);
            due("grains of 0", grains.winter(0, k + 1, 0), secondsOf0);
            // x times x is far beyond what an int holds
            worthOf9999 += 1 << DRAWS_OF_9999[k] % 5;
            secondsOf9999 += DRAWS_OF_9999[k] / 8 % 8 + 1;
            due("persons of 9999", persons.winter(9999, k + 1, -1), worthOf9999);
            due("grains of 9999", grains.winter(9999, k + 1, 0), secondsOf9999);
        }
        // x is greatest in the evening 99 of winter 9999, where DRAW is 62409
        due("the last of all, person 4", persons.winter(9999, 100, 4) - persons.winter(9999, 99, 4), 1);
        due("the last of all, grain 1", grains.winter(9999, 100, 0) - grains.winter(9999, 99, 0), 2);
    }

    @Words("PERSON DRAW modulo how many there are")
    static void promise20_personModuloHowMany() {
        // DRAW of winter 1, evening 0 is 22803
        int[] persons = {0, 1, 0, 3, 3};
        for (int many = 1; many <= 5; many++) {
            StringBuilder sayings = new StringBuilder();
            for (int i = 0; i < many; i++) {
                sayings.append("w" + i + ",1,1,99;");
            }
            WhileSaltMelts x = laid(times(many, "p1;") + "g1;" + sayings);
            for (int i = 0; i < many; i++) {
                due("person " + i + " of " + many, x.winter(1, 1, i), i == persons[many - 1] ? 1 : 0);
            }
        }
    }

    @Words("says by GRAIN (DRAW by 8, cut) modulo how many there are")
    static void promise20_grainModuloHowMany() {
        // 22803 by 8, cut, is 2850; 41487 by 8 is 5185 and 7 eighths
        WhileSaltMelts x;
        for (int many = 1; many <= 8; many++) {
            String grains = "g1;g2;g3;g4;g5;g6;g7;g8;".substring(0, 3 * many);
            x = laid("p1;" + grains + "w0,1,1,99;w0,2,2,99;w0,4,4,99;w0,1,1,99;");
            due("grain of " + many, x.winter(1, 1, 0), 2850 % many + 1);
            due("grain of " + many, x.winter(0, 2, 0) - x.winter(0, 1, 0), 5185 % many + 1);
        }
        x = laid(EIGHT_GRAINS);
        due("DRAW 1 by 8 is 0", x.winter(0, 1, 0), 1);
    }

    @Words("what would be BEST for both as LAID")
    static void promise20_asLaid() {
        WhileSaltMelts x = laid("p2;g5;w0,10,3,99;w0,11,4,99;d0,6;d0,3;");
        due("10 of 10 seconds", x.winter(3, 1, 0), 10);
        due("worth", x.winter(3, 1, -1), 3);
        x.eat(0);
        due("drier", x.best(0, 0, 0), 2);
        due("as dry as told", x.winter(3, 1, 0), 10);
        x.take(0, 0);
        x.say(0);
        due("said", x.winter(3, 1, 0), 10);
        due("taken", x.winter(3, 100, -1), 300);
        passTo(x, 15);
        x.eat(1);
        due("wetter", x.best(0, 0, 0), 0);
        due("as dry as told", x.winter(3, 1, -1), 3);
        // of most worth, of several the lowest
        due("the lowest", laid("p1;g9;w0,9,3,99;w0,8,3,99;").winter(3, 1, 0), 9);
        due("the worthier", laid("p1;g9;w0,9,3,99;w0,8,4,99;").winter(3, 1, 0), 8);
        // what they answer is let be
        due("an answer", laid("p1;p1;g1;w0,1,1,99;w1,1,2,0;").winter(0, 1, -1), 2);
    }

    @Words("the seconds that a PERSON speaks in all of them")
    static void promise20_secondsOfAPerson() {
        WhileSaltMelts x = laid(FIVE_PERSONS);
        int all = 0;
        for (int i = 0; i < 5; i++) {
            all += x.winter(9999, 100, i);
        }
        due("all of them", all, 100);
        due("a second of one who speaks", laid("p1;g1;w0,1,0,99;w0,1,1,99;").winter(0, 1, 0), 1);
        due("worth nothing, not said", laid("p1;g1;w0,1,0,99;").winter(0, 100, 0), 0);
        due("too long", laid("p1;g1;w0,2,9,99;").winter(0, 100, 0), 0);
        due("nothing to say", laid("p1;g1;").winter(0, 100, 0), 0);
        // as many as there can be in a hundred evenings: each time all seven
        x = laid("p9;g9;" + times(6, "w0,11,99,99;") + "w0,15,99,99;");
        due("all seconds", x.winter(9999, 100, 0), 8100);
        due("all worth", x.winter(9999, 100, -1), 69300);
    }

    @Words("A WINTER: the seconds of a PERSON, the worth of all (i = -1). BAD.")
    static void promise20_badNumbers() {
        WhileSaltMelts x = new WhileSaltMelts();
        due("-2", x.winter(0, 1, -2), BAD);
        due("-1", x.winter(0, 1, -1), 7);
        due("0", x.winter(0, 1, 0), 0);
        due("1 of 2", x.winter(0, 1, 1), 20);
        due("2 of 2", x.winter(0, 1, 2), BAD);
        due("most", x.winter(0, 1, MOST), BAD);
        due("least", x.winter(0, 1, LEAST), BAD);
        x = laid(times(5, "p1;") + "g1;");
        due("4 of 5", x.winter(0, 1, 4), 0);
        due("5 of 5", x.winter(0, 1, 5), BAD);
    }

    // ---- promise 21, keep

    @Words("KEPT is the evening as it is: 2 at most.")
    static void promise21_twoAtMost() {
        WhileSaltMelts x = new WhileSaltMelts();
        due("none", x.count(9), 0);
        due("the first", x.keep(), 1);
        due("the second", x.keep(), 2);
        due("a third", x.keep(), FULL);
        due("two", x.count(9), 2);
        x.back();
        due("again the second", x.keep(), 2);
        due("again a third", x.keep(), FULL);
        x.back();
        x.back();
        due("again the first", x.keep(), 1);
    }

    @Words("KEPT is the evening as it is")
    static void promise21_asItIs() {
        WhileSaltMelts x = laid(SMALL);
        x.eat(0);
        x.take(0, 0);
        x.say(0);
        List<Integer> was = state(x);
        x.keep();
        x.pass(600);
        x.eat(1);
        x.take(1, 1);
        x.say(1);
        x.wipe();
        x.write(1, 'x');
        x.back();
        List<Integer> is = state(x);
        // nothing of it can be undone, and THE TEXT is none of it
        was.set(8, 0);
        was.set(10, 1);
        due("state as kept", is.equals(was) ? 1 : 0, 1);
        due("the grain melts on", x.eat(1), NO);
        due("on his tongue", x.say(2), 12);
        // keep changes nothing else: what could be undone can be
        x.keep();
        due("undo", x.undo(), 0);
        due("second", x.count(4), 10);
    }

    @Words("nothing changes then")
    static void promise21_refusedChangesNothing() {
        refused("a third", x -> {
            x.pass(1);
            x.keep();
            x.take(0, 0);
            x.keep();
            x.say(0);
        }, x -> x.keep(), FULL);
    }

    // ---- promise 22, back

    @Words("As KEPT last (it is KEPT no more then): how many are left")
    static void promise22_asKeptLast() {
        WhileSaltMelts x = new WhileSaltMelts();
        x.pass(1);
        x.keep();
        x.pass(10);
        x.keep();
        x.pass(100);
        due("the last", x.back(), 1);
        due("second", x.count(4), 11);
        due("kept", x.count(9), 1);
        x.pass(100);
        due("the one ahead of it", x.back(), 0);
        due("second", x.count(4), 1);
        due("kept", x.count(9), 0);
        due("none is left", x.back(), NO);
        due("second", x.count(4), 1);
        // kept at first, with nothing done
        x = new WhileSaltMelts();
        x.keep();
        passTo(x, 9999);
        due("back", x.back(), 0);
        due("second", x.count(4), 0);
    }

    @Words("KEPT is the evening as it is")
    static void promise22_asItWas() {
        // said again in the meantime, it ended when it had ended as it was kept
        WhileSaltMelts x = laid("p9;p1;g9;g9;a0;w0,5,1,99;w0,1,1,99;w1,1,1,0;");
        x.take(0, 0);
        x.say(0);
        x.keep();
        x.undo();
        x.pass(10);
        due("again", x.say(0), 15);
        x.back();
        due("ended as kept", x.saying(0, 4), 5);
        due("share as kept", x.person(0, 1), 5);
        due("listens as kept", x.person(0, 2), 162);
        due("the grain melts as kept", x.say(1), 6);
        due("no other is taken", x.take(1, 1), NO);
    }

    @Words("nothing is UNDONE then")
    static void promise22_nothingIsUndoneThen() {
        WhileSaltMelts x = new WhileSaltMelts();
        x.pass(1);
        x.pass(2);
        x.keep();
        due("two", x.count(8), 2);
        x.back();
        due("none", x.count(8), 0);
        due("undo", x.undo(), NO);
        due("second", x.count(4), 3);
        x.pass(4);
        due("one", x.count(8), 1);
        due("undo", x.undo(), 0);
        due("second", x.count(4), 3);
        due("undo", x.undo(), NO);
    }

    @Words("As KEPT last .. NO.")
    static void promise22_noneKept() {
        WhileSaltMelts x = new WhileSaltMelts();
        due("none kept", x.back(), NO);
        x.keep();
        due("one kept", x.back(), 0);
        due("none kept", x.back(), NO);
        x.keep();
        tell(x, SMALL);
        x.lay();
        due("laid since", x.back(), NO);
    }

    @Words("nothing changes then")
    static void promise22_refusedChangesNothing() {
        refused("none kept", x -> {
            x.take(0, 0);
            x.say(0);
            x.pass(20);
        }, x -> x.back(), NO);
        WhileSaltMelts x = new WhileSaltMelts();
        x.pass(7);
        due("none kept", x.back(), NO);
        due("undo", x.undo(), 0);
    }

    // ---- promise 23, count

    @Words("How many: 0 PERSONS .. 10 bytes of THE TEXT. BAD.")
    static void promise23_badWhat() {
        WhileSaltMelts x = new WhileSaltMelts();
        due("-1", x.count(-1), BAD);
        due("0", x.count(0), 2);
        due("10", x.count(10), 0);
        due("11", x.count(11), BAD);
        due("most", x.count(MOST), BAD);
        due("least", x.count(LEAST), BAD);
    }

    @Words("0 PERSONS, 1 GRAINS, 2 SAYINGS, 3 DISHES")
    static void promise23_whatIsTold() {
        WhileSaltMelts least = laid("p1;g1;");
        WhileSaltMelts most = laid(times(5, "p1;") + times(8, "g1;") + times(7, "w0,1,1,99;") + times(4, "d0,5;"));
        int[] fewest = {1, 1, 0, 0};
        int[] many = {5, 8, 7, 4};
        for (int what = 0; what <= 3; what++) {
            due("count " + what, least.count(what), fewest[what]);
            due("count " + what, most.count(what), many[what]);
        }
    }

    @Words("4 the second")
    static void promise23_theSecond() {
        WhileSaltMelts x = laid("p9;g9;w0,60,1,99;");
        due("at first", x.count(4), 0);
        passTo(x, 9999);
        x.take(0, 0);
        due("taken", x.count(4), 9999);
        x.say(0);
        due("said", x.count(4), 10059);
    }

    @Words("5 GRAINS in THE SHAKER (bits)")
    static void promise23_grainsInTheShaker() {
        WhileSaltMelts x = laid("p1;" + times(8, "g1;"));
        int left = 255;
        due("all", x.count(5), left);
        for (int g = 7; g >= 0; g--) {
            x.take(0, g);
            left -= 1 << g;
            due("without " + g, x.count(5), left);
            x.pass(2);
        }
        due("none", x.count(5), 0);
    }

    @Words("6 SAYINGS said (bits)")
    static void promise23_sayingsSaid() {
        WhileSaltMelts x = laid("p9;g9;" + times(7, "w0,1,1,99;"));
        x.take(0, 0);
        int said = 0;
        due("none", x.count(6), said);
        for (int s = 6; s >= 0; s--) {
            x.say(s);
            said += 1 << s;
            due("and " + s, x.count(6), said);
        }
        due("all", x.count(6), 127);
    }

    @Words("7 DISHES eaten (bits)")
    static void promise23_dishesEaten() {
        WhileSaltMelts x = laid("p9;g9;" + times(4, "d0,5;"));
        int eaten = 0;
        due("none", x.count(7), eaten);
        for (int d = 3; d >= 0; d--) {
            x.eat(d);
            eaten += 1 << d;
            due("and " + d, x.count(7), eaten);
        }
        due("all", x.count(7), 15);
    }

    @Words("8 that can be UNDONE")
    static void promise23_thatCanBeUndone() {
        WhileSaltMelts x = new WhileSaltMelts();
        for (int n = 0; n <= 10; n++) {
            due("behind " + n, x.count(8), Math.min(8, n));
            x.pass(1);
        }
        for (int left = 8; left >= 1; left--) {
            due("left", x.count(8), left);
            x.undo();
        }
        due("left", x.count(8), 0);
    }

    @Words("9 KEPT")
    static void promise23_kept() {
        WhileSaltMelts x = new WhileSaltMelts();
        int[] kept = {0, 1, 2, 2};
        for (int n = 0; n <= 3; n++) {
            due("behind " + n, x.count(9), kept[n]);
            x.keep();
        }
        x.back();
        due("back", x.count(9), 1);
        x.back();
        x.back();
        due("back", x.count(9), 0);
    }

    @Words("10 bytes of THE TEXT")
    static void promise23_bytesOfTheText() {
        WhileSaltMelts x = new WhileSaltMelts();
        for (int length = 0; length < 300; length += 4) {
            due("bytes", x.count(10), length);
            x.write(4, 0);
        }
        due("full", x.count(10), 300);
        x.write(1, 0);
        due("full", x.count(10), 300);
        x.wipe();
        due("wiped", x.count(10), 0);
    }
}
