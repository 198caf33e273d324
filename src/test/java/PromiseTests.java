import java.nio.charset.StandardCharsets;

/** For each promise of the document: ordinary inputs, the edges that it names, wrong inputs; the answers were worked out by hand. */
public final class PromiseTests {
    private static final int BAD = WhileSaltMelts.BAD, NO = WhileSaltMelts.NO, FULL = WhileSaltMelts.FULL, NONE = WhileSaltMelts.NONE;
    /** Three persons, five grains, six sayings, three dishes. */
    private static final String TABLE = "p3;p5;p2;g4;g6;g2;g9;g1;w0,10,5,99;w1,20,7,0;w2,8,30,1;w0,12,9,2;w1,5,40,99;w2,18,3,4;a15;d0,8;d1,2;d2,9;";

    private static int wrong;
    private static int promise;

    private static void due(String what, long got, long want) {
        if (got != want) {
            wrong++;
            System.out.println("promise " + promise + ": " + what + " answered " + got + ", due is " + want);
        }
    }

    private static int tell(WhileSaltMelts x, String text) {
        x.wipe();
        byte[] bytes = text.getBytes(StandardCharsets.ISO_8859_1);
        int told = 0;
        for (int from = 0; from < bytes.length; from += 8) {
            int n = Math.min(8, bytes.length - from);
            long v = 0;
            for (int k = 0; k < n; k++) {
                v = v << 8 | (bytes[from + k] & 255);
            }
            told = x.write(n, v);
        }
        return told;
    }

    private static WhileSaltMelts laid(String text) {
        WhileSaltMelts x = new WhileSaltMelts();
        due("length of " + text, tell(x, text), text.length());
        due("fault of " + text, x.fault(), NONE);
        if (x.lay() < 1) {
            due("lay of " + text, NO, 1);
        }
        return x;
    }

    private static void faultAt(String text, int place) {
        WhileSaltMelts x = new WhileSaltMelts();
        tell(x, text);
        due("fault of " + text, x.fault(), place);
        if (place != NONE) {
            due("lay of " + text, x.lay(), NO);
        }
    }

    private static void counts(WhileSaltMelts x, int... want) {
        for (int what = 0; what < want.length; what++) {
            due("count(" + what + ")", x.count(what), want[what]);
        }
    }

    private static void constants() {
        promise = 0;
        due("BAD", BAD, -1);
        due("NO", NO, -2);
        due("FULL", FULL, -3);
        due("NONE", NONE, -4);
    }

    private static void promise1() {
        promise = 1;
        WhileSaltMelts x = new WhileSaltMelts();
        counts(x, 2, 2, 2, 0, 0, 3, 0, 0, 0, 0, 0);
        due("person", x.person(0, 0), 3);
        due("person", x.person(1, 0), 5);
        due("melts", x.melts(0, 0), 12);
        due("melts", x.melts(0, 1), 18);
        int[][] sayings = {{0, 10, 5, NONE, NONE}, {1, 20, 7, 0, NONE}};
        for (int s = 0; s < 2; s++) {
            for (int what = 0; what < 5; what++) {
                due("saying(" + s + ", " + what + ")", x.saying(s, what), sayings[s][what]);
            }
        }
        due("fault", x.fault(), NONE);
        due("undo", x.undo(), NO);
        due("back", x.back(), NO);
        // two objects have nothing in common
        WhileSaltMelts y = new WhileSaltMelts();
        x.write(1, 'p');
        x.pass(5);
        counts(y, 2, 2, 2, 0, 0, 3, 0, 0, 0, 0, 0);
    }

    private static void promise2() {
        promise = 2;
        WhileSaltMelts x = new WhileSaltMelts();
        due("write 0", x.write(0, 1), BAD);
        due("write 9", x.write(9, 1), BAD);
        due("write -1", x.write(-1, 1), BAD);
        due("write least", x.write(Integer.MIN_VALUE, 1), BAD);
        due("write most", x.write(Integer.MAX_VALUE, 1), BAD);
        due("count", x.count(10), 0);
        // the higher bytes of v are let be, and the highest of the lowest n comes first
        due("write", x.write(3, 0x4141_4100_7031_3BL), 3);
        due("write", x.write(3, 0x4141_4100_6732_3BL), 6);
        due("fault", x.fault(), NONE);
        due("lay", x.lay(), 1);
        due("melts", x.melts(0, 0), 2);
        x.wipe();
        due("write 8", x.write(8, 0x70393B67393B6137L), 8);
        due("fault", x.fault(), 6);
        due("write 1", x.write(1, 0x3B), 9);
        due("fault", x.fault(), NONE);
        x.wipe();
        for (int k = 1; k <= 37; k++) {
            due("write", x.write(8, -1L), 8 * k);
        }
        due("write to 301", x.write(5, 0), FULL);
        due("write to 304", x.write(8, 0), FULL);
        due("write bad when full", x.write(9, 0), BAD);
        due("count", x.count(10), 296);
        due("write to 300", x.write(4, 0), 300);
        due("write to 301", x.write(1, 0), FULL);
        due("write bad when full", x.write(0, 0), BAD);
        due("count", x.count(10), 300);
        due("fault", x.fault(), 0);
        due("wipe", x.wipe(), 300);
        due("write", x.write(2, 0), 2);
    }

    private static void promise3() {
        promise = 3;
        WhileSaltMelts x = new WhileSaltMelts();
        due("wipe", x.wipe(), 0);
        x.write(8, 0);
        due("wipe", x.wipe(), 8);
        due("wipe", x.wipe(), 0);
        due("count", x.count(10), 0);
        due("fault", x.fault(), NONE);
        due("persons stay", x.count(0), 2);
    }

    private static void promise4() {
        promise = 4;
        faultAt("", NONE);
        faultAt(TABLE, NONE);
        // persons, grains
        faultAt("p1;p9;p01;p09;g1;g9;g01;g09;", NONE);
        faultAt("p0;", 0);
        faultAt("p1;p00;", 3);
        faultAt("p10;", 0);
        faultAt("p1;p1;p1;p1;p1;", NONE);
        faultAt("p1;p1;p1;p1;p1;p1;", 15);
        faultAt("g0;", 0);
        faultAt("g10;", 0);
        faultAt("g1;g1;g1;g1;g1;g1;g1;g1;", NONE);
        faultAt("g1;g1;g1;g1;g1;g1;g1;g1;g1;", 24);
        faultAt("p1,1;", 0);
        faultAt("g1,1;", 0);
        // sayings
        faultAt("p1;w0,1,0,99;w0,60,99,99;w00,01,00,99;", NONE);
        faultAt("w0,1,0,99;", 0);
        faultAt("p1;w1,1,0,99;", 3);
        faultAt("p1;w0,0,0,99;", 3);
        faultAt("p1;w0,61,0,99;", 3);
        faultAt("p1;w0,1,0,0;", 3);
        faultAt("p1;w0,1,0,98;", 3);
        faultAt("p1;w0,1,0,7;", 3);
        faultAt("p1;p1;w0,1,0,99;w1,1,0,0;", NONE);
        faultAt("p1;p1;w0,1,0,99;w0,1,0,0;", 16);
        faultAt("p1;p1;w0,1,0,99;w1,1,0,1;", 16);
        faultAt("p1;w0,1,0;", 3);
        faultAt("p1;w0,1,0,99,1;", 3);
        faultAt("p1;w0,1,0,99,;", 3);
        String seven = "p1;w0,1,0,99;w0,1,0,99;w0,1,0,99;w0,1,0,99;w0,1,0,99;w0,1,0,99;w0,1,0,99;";
        faultAt(seven, NONE);
        faultAt(seven + "w0,1,0,99;", seven.length());
        // answers
        faultAt("a0;a99;a5;", NONE);
        faultAt("a100;", 0);
        faultAt("a1,1;", 0);
        faultAt("a;", 0);
        // dishes
        faultAt("p1;d0,0;d0,9;", NONE);
        faultAt("d0,5;", 0);
        faultAt("p1;d1,5;", 3);
        faultAt("p1;d0,10;", 3);
        faultAt("p1;d0;", 3);
        faultAt("p1;d0,1,1;", 3);
        faultAt("p1;d0,0;d0,0;d0,0;d0,0;", NONE);
        faultAt("p1;d0,0;d0,0;d0,0;d0,0;d0,0;", 23);
        // the form
        faultAt("p", 0);
        faultAt("p1", 0);
        faultAt("p1;g", 3);
        faultAt("p1;g1", 3);
        faultAt("p1;w0,1,0,9", 3);
        faultAt("p1;d0,", 3);
        faultAt("p001;", 0);
        faultAt("P1;", 0);
        faultAt("x1;", 0);
        faultAt(";", 0);
        faultAt("p1;;", 3);
        faultAt("1;", 0);
        faultAt("p1 ;", 0);
        faultAt(" p1;", 0);
        faultAt("p1; g1;", 3);
        faultAt("p-1;", 0);
        faultAt("p,1;", 0);
        faultAt("p1,;", 0);
        faultAt("p1:", 0);
        faultAt("p:;", 0);
        faultAt("p/;", 0);
        faultAt("p1;d0.5;", 3);
        faultAt("p1;\0", 3);
        faultAt("p1;\u00f0\u00b1\u00bb", 3);
        // a later fault hides behind the first
        faultAt("p1;g0;p0;", 3);
    }

    private static void promise5() {
        promise = 5;
        WhileSaltMelts x = new WhileSaltMelts();
        due("lay of nothing", x.lay(), NO);
        for (String text : new String[] {"p1;", "g1;", "a5;", "p1;g1;x", "p1;g1;g0;"}) {
            tell(x, text);
            due("lay of " + text, x.lay(), NO);
        }
        // a table that is not laid changes nothing
        x.wipe();
        x.take(0, 0);
        x.say(0);
        x.pass(2);
        x.keep();
        tell(x, "p1;g1;x");
        due("lay", x.lay(), NO);
        counts(x, 2, 2, 2, 0, 12, 2, 1, 0, 3, 1, 7);
        due("person", x.person(0, 1), 10);
        due("melts", x.melts(1, 1), 30);
        // all begins anew
        tell(x, TABLE);
        due("lay", x.lay(), 3);
        counts(x, 3, 5, 6, 3, 0, 31, 0, 0, 0, 0, TABLE.length());
        due("person", x.person(0, 1), 0);
        due("person", x.person(0, 2), 0);
        due("saying", x.saying(0, 4), NONE);
        due("undo", x.undo(), NO);
        due("back", x.back(), NO);
        // what is told behind it, laid or not, is not yet on the table
        tell(x, "g1;p9;w0,1,1,99;a0;d0,9;x");
        due("fault", x.fault(), 24);
        due("lay", x.lay(), NO);
        counts(x, 3, 5, 6, 3, 0, 31, 0, 0, 0, 0, 25);
        due("melts", x.melts(0, 0), 12);
        due("saying", x.saying(0, 1), 10);
        due("eat", x.eat(0), 6);
        tell(x, TABLE);
        due("lay", x.lay(), 3);
        // again, amid an evening: no grain melts, mouths are as told
        x.eat(0);
        x.take(1, 1);
        x.say(4);
        x.keep();
        due("lay", x.lay(), 3);
        counts(x, 3, 5, 6, 3, 0, 31, 0, 0, 0, 0, TABLE.length());
        due("person", x.person(0, 0), 3);
        due("person", x.person(1, 1), 0);
        due("say", x.say(4), NO);
        due("take", x.take(1, 1), 30);
        // what the earlier table told is gone
        tell(x, "g2;p1;");
        due("lay", x.lay(), 1);
        counts(x, 1, 1, 0, 0, 0, 1, 0, 0, 0, 0, 6);
        due("undo", x.undo(), NO);
        // grains and persons may be told in any order, and the last a counts, at any place
        x = laid("a0;g1;p9;p9;a3;w0,5,1,99;w1,4,1,0;g1;");
        x.take(0, 0);
        x.say(0);
        x.pass(4);
        x.take(1, 1);
        due("say late", x.say(1), NO);
        x = laid("g1;p9;p9;a0;w0,5,1,99;w1,4,1,0;g1;a4;");
        x.take(0, 0);
        x.say(0);
        x.pass(4);
        x.take(1, 1);
        due("say in time", x.say(1), 13);
    }

    private static void promise6() {
        promise = 6;
        WhileSaltMelts x = laid(TABLE);
        int[] dry = {3, 5, 2};
        for (int i = 0; i < 3; i++) {
            due("dry", x.person(i, 0), dry[i]);
            due("share", x.person(i, 1), 0);
            due("listens", x.person(i, 2), 0);
        }
        due("person 3", x.person(3, 0), BAD);
        due("person -1", x.person(-1, 0), BAD);
        due("person least", x.person(Integer.MIN_VALUE, 0), BAD);
        due("person 5", x.person(5, 0), BAD);
        due("what 3", x.person(0, 3), BAD);
        due("what -1", x.person(0, -1), BAD);
        x.pass(7);
        x.take(0, 3);
        due("listens", x.person(0, 2), 61);
        x.say(0);
        due("share", x.person(0, 1), 10);
        due("share of another", x.person(1, 1), 0);
        x.pass(200);
        due("listens, over", x.person(0, 2), 61);
        x.eat(0);
        due("dry", x.person(0, 0), 6);
        due("listens, as taken", x.person(0, 2), 61);
        x.take(0, 0);
        due("listens", x.person(0, 2), 217 + 48);
        // a share is the sum of all that he said
        x = laid("p9;g9;w0,60,1,99;w0,20,1,99;");
        x.take(0, 0);
        x.say(0);
        x.say(1);
        due("share", x.person(0, 1), 80);
    }

    private static void promise7() {
        promise = 7;
        WhileSaltMelts x = laid(TABLE);
        int[][] sayings = {{0, 10, 5, NONE}, {1, 20, 7, 0}, {2, 8, 30, 1}, {0, 12, 9, 2}, {1, 5, 40, NONE}, {2, 18, 3, 4}};
        for (int s = 0; s < 6; s++) {
            for (int what = 0; what < 4; what++) {
                due("saying(" + s + ", " + what + ")", x.saying(s, what), sayings[s][what]);
            }
            due("saying(" + s + ", 4)", x.saying(s, 4), NONE);
            due("what 5", x.saying(s, 5), BAD);
            due("what -1", x.saying(s, -1), BAD);
        }
        due("saying 6", x.saying(6, 0), BAD);
        due("saying -1", x.saying(-1, 4), BAD);
        due("saying most", x.saying(Integer.MAX_VALUE, 0), BAD);
        due("saying 99", x.saying(99, 3), BAD);
        x.take(0, 1);
        x.pass(3);
        x.say(0);
        x.pass(4);
        due("ended", x.saying(0, 4), 13);
        due("not said", x.saying(3, 4), NONE);
        x.undo();
        x.undo();
        due("undone", x.saying(0, 4), NONE);
    }

    private static void promise8() {
        promise = 8;
        WhileSaltMelts x = laid(TABLE);
        int[] size = {4, 6, 2, 9, 1};
        int[] dry = {3, 5, 2};
        for (int i = 0; i < 3; i++) {
            for (int g = 0; g < 5; g++) {
                due("melts(" + i + ", " + g + ")", x.melts(i, g), size[g] * dry[i]);
            }
        }
        due("person 3", x.melts(3, 0), BAD);
        due("grain 5", x.melts(0, 5), BAD);
        due("person -1", x.melts(-1, 0), BAD);
        due("grain -1", x.melts(0, -1), BAD);
        due("most", x.melts(Integer.MAX_VALUE, Integer.MAX_VALUE), BAD);
        x.eat(1);
        due("wetter", x.melts(1, 3), 18);
        x.take(0, 3);
        due("taken already", x.melts(0, 3), 27);
    }

    private static void promise9() {
        promise = 9;
        WhileSaltMelts x = laid(TABLE);
        due("person 3", x.take(3, 0), BAD);
        due("grain 5", x.take(0, 5), BAD);
        due("person -1", x.take(-1, 0), BAD);
        due("grain -1", x.take(0, -1), BAD);
        due("nothing undone", x.count(8), 0);
        x.pass(5);
        due("take", x.take(1, 2), 15);
        due("shaker", x.count(5), 27);
        due("second", x.count(4), 5);
        due("own melts", x.take(1, 0), NO);
        due("another's melts", x.take(0, 0), NO);
        due("bad while one melts", x.take(0, 5), BAD);
        x.pass(9);
        due("at 14", x.take(0, 0), NO);
        x.pass(1);
        due("at 15 listens", x.take(1, 0), NO);
        due("taken already", x.take(0, 2), NO);
        due("at 15 another", x.take(0, 4), 18);
        x.pass(9);
        due("at 24 listens", x.take(1, 0), NO);
        x.pass(1);
        due("at 25", x.take(1, 0), 45);
        due("shaker", x.count(5), 10);
        due("undoable", x.count(8), 8);
        // a dish eaten later lets be how long he listens
        x = laid("p1;g9;g9;d0,9;");
        x.take(0, 0);
        x.pass(9);
        x.eat(0);
        x.pass(8);
        due("at 17", x.take(0, 1), NO);
        x.pass(1);
        due("at 18", x.take(0, 1), 18 + 45);
    }

    private static void promise10() {
        promise = 10;
        WhileSaltMelts x = laid(TABLE);
        due("saying 6", x.say(6), BAD);
        due("saying -1", x.say(-1), BAD);
        due("no grain", x.say(0), NO);
        due("nothing undone", x.count(8), 0);
        x.take(0, 1);
        due("another's", x.say(4), NO);
        due("not answered", x.say(3), NO);
        x.pass(8);
        due("say to the end", x.say(0), 18);
        due("said", x.count(6), 1);
        due("second", x.count(4), 18);
        due("melted", x.say(0), NO);
        x = laid(TABLE);
        x.take(0, 1);
        x.pass(9);
        due("too long by one", x.say(0), NO);
        x = laid("p9;g9;w0,1,1,99;w0,81,1,99;".replace("81", "60"));
        x.take(0, 0);
        due("say", x.say(1), 60);
        due("said already", x.say(1), NO);
        due("say", x.say(0), 61);
        due("said", x.count(6), 3);
        x.pass(20);
        due("melted", x.say(0), NO);
        // a grain that has melted is no longer there for a saying not said
        x = laid("p1;g1;w0,1,1,99;");
        x.take(0, 0);
        x.pass(1);
        due("at the melting", x.say(0), NO);
        answers();
        // nothing refuses a saying that ends behind second 9999
        x = laid("p9;g9;w0,60,1,99;");
        for (int k = 0; k < 16; k++) {
            x.pass(600);
        }
        x.pass(399);
        due("take at 9999", x.take(0, 0), 10080);
        due("say at 9999", x.say(0), 10059);
        due("pass", x.pass(1), NO);
    }

    private static void answers() {
        // 20 seconds without a: 5 + 20 is in time, 5 + 21 is not
        for (int behind = 20; behind <= 21; behind++) {
            WhileSaltMelts x = laid("p1;p9;g5;g9;w0,5,1,99;w1,5,1,0;");
            x.take(0, 0);
            x.say(0);
            x.take(1, 1);
            x.pass(behind);
            due("answer behind " + behind, x.say(1), behind == 20 ? 30 : NO);
        }
        // 0 seconds: at the very end only
        for (int behind = 0; behind <= 1; behind++) {
            WhileSaltMelts x = laid("p1;p9;g5;g9;a0;w0,5,1,99;w1,5,1,0;");
            x.take(0, 0);
            x.say(0);
            x.take(1, 1);
            if (behind > 0) {
                x.pass(behind);
            }
            due("answer behind " + behind, x.say(1), behind == 0 ? 10 : NO);
        }
        WhileSaltMelts x = laid("p1;p9;g5;g9;w0,5,1,99;w1,5,1,0;");
        x.take(1, 1);
        due("answer to what is not said", x.say(1), NO);
    }

    private static void promise11() {
        promise = 11;
        WhileSaltMelts x = new WhileSaltMelts();
        due("pass 0", x.pass(0), BAD);
        due("pass -1", x.pass(-1), BAD);
        due("pass 601", x.pass(601), BAD);
        due("pass most", x.pass(Integer.MAX_VALUE), BAD);
        due("pass 1", x.pass(1), 1);
        for (int k = 1; k <= 16; k++) {
            due("pass 600", x.pass(600), 1 + 600 * k);
        }
        due("to 10000", x.pass(399), NO);
        due("bad there", x.pass(601), BAD);
        due("to 9999", x.pass(398), 9999);
        due("to 10000", x.pass(1), NO);
        due("second", x.count(4), 9999);
        due("undone", x.undo(), 7);
        due("second", x.count(4), 9601);
    }

    private static void promise12() {
        promise = 12;
        WhileSaltMelts x = new WhileSaltMelts();
        due("no dish", x.eat(0), BAD);
        x = laid("p3;p9;p1;g2;d0,7;d0,0;d1,6;d2,4;");
        due("dish 4", x.eat(4), BAD);
        due("dish -1", x.eat(-1), BAD);
        due("eat", x.eat(0), 5);
        due("again", x.eat(0), NO);
        due("down to 1", x.eat(1), 1);
        due("up to 9", x.eat(2), 9);
        due("eaten", x.count(7), 7);
        x.take(1, 0);
        due("while one melts", x.eat(3), NO);
        x.pass(17);
        due("while one melts", x.eat(3), NO);
        x.pass(1);
        due("when it has melted", x.eat(3), 1);
        due("eaten", x.count(7), 15);
        due("bad before no", x.eat(4), BAD);
        x = laid("p5;g1;d0,5;d0,9;d0,1;");
        due("no drier", x.eat(0), 5);
        due("to 9", x.eat(1), 9);
        due("to 5", x.eat(2), 5);
        x = laid("p5;g1;g1;d0,9;");
        x.take(0, 0);
        x.pass(5);
        due("while he listens", x.eat(0), 9);
    }

    private static void promise13() {
        promise = 13;
        WhileSaltMelts x = laid(TABLE);
        due("nothing", x.undo(), NO);
        x.eat(0);
        x.take(0, 1);
        x.say(0);
        x.pass(50);
        due("pass undone", x.undo(), 3);
        due("second", x.count(4), 10);
        due("grain still melts", x.take(1, 0), NO);
        due("say undone", x.undo(), 2);
        due("second", x.count(4), 0);
        due("said", x.count(6), 0);
        due("share", x.person(0, 1), 0);
        due("take undone", x.undo(), 1);
        due("shaker", x.count(5), 31);
        due("listens", x.person(0, 2), 0);
        due("no grain", x.say(0), NO);
        due("eat undone", x.undo(), 0);
        due("eaten", x.count(7), 0);
        due("dry", x.person(0, 0), 3);
        due("nothing", x.undo(), NO);
        // what is refused is not among the latest
        x.pass(1);
        x.pass(0);
        x.say(0);
        x.take(0, 9);
        x.eat(9);
        x.keep();
        due("one", x.undo(), 0);
        due("second", x.count(4), 0);
        // the last 8 can be
        for (int n = 1; n <= 11; n++) {
            x.pass(n);
            due("undoable", x.count(8), Math.min(8, n));
        }
        for (int k = 7; k >= 0; k--) {
            due("undo", x.undo(), k);
            due("second", x.count(4), (3 + k) * (4 + k) / 2);
        }
        due("ninth", x.undo(), NO);
        due("second", x.count(4), 1 + 2 + 3);
        // whose grain melts, and when a saying ended, is as it was
        WhileSaltMelts y = laid("p9;p1;g9;g9;w0,60,1,99;w0,9,1,99;w1,9,1,0;");
        y.take(0, 0);
        y.say(0);
        y.pass(21);
        y.take(1, 1);
        y.undo();
        y.undo();
        due("again his", y.say(1), 69);
        y.undo();
        y.undo();
        y.pass(10);
        y.say(0);
        due("ended", y.saying(0, 4), 70);
        // what is done behind an undo takes its place
        x.pass(10);
        x.pass(20);
        x.undo();
        x.pass(30);
        due("undo", x.undo(), 1);
        due("second", x.count(4), 16);
        due("undo", x.undo(), 0);
        due("second", x.count(4), 6);
    }

    private static void promise14() {
        promise = 14;
        WhileSaltMelts x = laid("p2;p1;g5;g2;g1;g9;w0,4,10,99;w0,6,15,99;w1,1,50,99;w0,10,25,99;w0,1,0,99;");
        due("all ten seconds", x.best(0, 0, 0), 3);
        due("its worth", x.best(0, 0, 1), 25);
        due("four seconds", x.best(0, 1, 0), 1);
        due("its worth", x.best(0, 1, 1), 10);
        due("two seconds: worth nothing", x.best(0, 2, 0), 0);
        due("its worth", x.best(0, 2, 1), 0);
        due("18 seconds", x.best(0, 3, 0), 10);
        due("its worth", x.best(0, 3, 1), 40);
        due("another", x.best(1, 2, 0), 4);
        due("what 2", x.best(0, 0, 2), BAD);
        due("what -1", x.best(0, 0, -1), BAD);
        due("person 2", x.best(2, 0, 0), BAD);
        due("person -1", x.best(-1, 0, 0), BAD);
        due("grain 4", x.best(0, 4, 0), BAD);
        due("grain -1", x.best(0, -1, 0), BAD);
        x.take(0, 3);
        x.say(0);
        due("taken already, one said", x.best(0, 3, 0), 10);
        due("ten seconds, one said", x.best(0, 0, 0), 8);
        x.say(1);
        due("two said", x.best(0, 3, 1), 25);
        // as dry as he is now; what they answer is let be
        x = laid("p2;p3;g2;w0,5,7,99;w1,6,9,0;d0,6;");
        due("too wet", x.best(0, 0, 0), 0);
        x.eat(0);
        due("drier", x.best(0, 0, 0), 1);
        due("an answer", x.best(1, 0, 1), 9);
        // of several the lowest set
        x = laid("p1;g9;w0,9,3,99;w0,4,1,99;w0,5,2,99;w0,9,3,99;");
        due("lowest", x.best(0, 0, 0), 1);
        x = laid("p1;g9;w0,4,1,99;w0,5,2,99;w0,9,3,99;");
        due("lowest", x.best(0, 0, 0), 3);
    }

    private static void promise15() {
        promise = 15;
        WhileSaltMelts x = laid(TABLE);
        int[] grains = {NONE, 0, 1, 3, 2, NONE};
        due("worth", x.match(-1), 86);
        for (int s = 0; s < 6; s++) {
            due("match(" + s + ")", x.match(s), grains[s]);
        }
        due("saying 6", x.match(6), BAD);
        due("saying -2", x.match(-2), BAD);
        due("least", x.match(Integer.MIN_VALUE), BAD);
        // a saying that is said gets none, a grain that is taken is given to none
        x.take(1, 3);
        x.say(4);
        due("worth", x.match(-1), 39);
        due("said", x.match(4), NONE);
        due("worth too little", x.match(1), NONE);
        due("by grain 0", x.match(2), 0);
        due("by grain 1", x.match(3), 1);
        due("no grain is long enough", x.match(5), NONE);
        // as dry as now
        x = laid("p2;g2;w0,5,7,99;d0,6;");
        due("too wet", x.match(0), NONE);
        due("worth", x.match(-1), 0);
        x.eat(0);
        due("drier", x.match(0), 0);
        due("worth", x.match(-1), 7);
        // no fewer seconds than it is long
        x = laid("p1;g4;g5;w0,5,1,99;");
        due("just so long", x.match(0), 1);
        // the first way: worth nothing gets a grain too, the lowest saying the lowest
        x = laid("p9;g1;g1;g1;w0,1,0,99;w0,1,5,99;w0,1,5,99;");
        for (int s = 0; s < 3; s++) {
            due("match(" + s + ")", x.match(s), s);
        }
        x = laid("p9;g1;g1;w0,1,5,99;w0,1,5,99;w0,1,5,99;");
        due("match(0)", x.match(0), 0);
        due("match(1)", x.match(1), 1);
        due("match(2)", x.match(2), NONE);
        x = laid("p9;g9;g1;w0,9,5,99;w0,10,5,99;");
        due("match(0)", x.match(0), 1);
        due("match(1)", x.match(1), 0);
        x = laid("p1;g1;g1;w0,1,0,99;w0,1,3,99;w0,1,4,99;");
        due("match(0)", x.match(0), NONE);
        due("match(1)", x.match(1), 0);
        // what it answers is let be
        x = laid("p1;p1;g1;w0,2,9,99;w1,1,5,0;");
        due("answer", x.match(1), 0);
        // as many as there can be, and behind them fewer
        x = laid("p1;g8;g7;g6;g5;g4;g3;g2;g1;w0,1,1,99;w0,2,1,99;w0,3,1,99;w0,4,1,99;w0,5,1,99;w0,6,1,99;w0,7,1,99;");
        due("worth", x.match(-1), 7);
        due("match(0)", x.match(0), 0);
        for (int s = 1; s < 7; s++) {
            due("match(" + s + ")", x.match(s), 7 - s);
        }
        tell(x, "p1;g1;w0,1,0,99;");
        x.lay();
        due("match(0)", x.match(0), 0);
        // no sayings
        x = laid("p1;g1;");
        due("worth", x.match(-1), 0);
        due("saying 0", x.match(0), BAD);
    }

    private static void order(WhileSaltMelts x, int seconds, int... sayings) {
        due("soonest(-1)", x.soonest(-1), seconds);
        for (int k = 0; k < sayings.length; k++) {
            due("soonest(" + k + ")", x.soonest(k), sayings[k]);
        }
        due("soonest(" + sayings.length + ")", x.soonest(sayings.length), NONE);
    }

    private static void promise16() {
        promise = 16;
        WhileSaltMelts x = laid(TABLE);
        order(x, 45, 1, 2, 3, 4);
        due("soonest -2", x.soonest(-2), BAD);
        due("least", x.soonest(Integer.MIN_VALUE), BAD);
        due("7", x.soonest(7), NONE);
        due("most", x.soonest(Integer.MAX_VALUE), NONE);
        order(laid("p1;g1;"), 0);
        order(laid("p1;g1;w0,2,9,99;"), 0);
        // one behind the other: he listens, twice the grain's melting since he began
        order(laid("p1;g4;g6;w0,4,9,99;w0,6,9,99;"), 14, 0, 1);
        // another fills his listening; of the orders as soon the first
        order(laid("p1;p1;g4;g5;g9;w0,4,9,99;w0,5,9,99;w1,9,9,99;"), 18, 0, 2, 1);
        // the shorter melting first is sooner
        order(laid("p1;g6;g4;w0,6,9,99;w0,3,9,99;"), 14, 1, 0);
        // an answer stands behind what it answers, however much sooner the other way is
        order(laid("p9;p1;g1;g9;a99;w0,9,9,99;w1,9,9,0;"), 18, 0, 1);
        // an answer to what gets no grain is free
        order(laid("p1;p1;g1;w0,2,9,99;w1,1,5,0;"), 1, 1);
        // as many as there can be, each 20 seconds behind the one ahead of it; the last is a short one
        order(laid("p2;g5;g5;g5;g5;g5;g5;g5;g5;w0,9,1,99;w0,1,1,99;w0,1,1,99;w0,1,1,99;w0,1,1,99;w0,1,1,99;w0,1,1,99;"),
            121, 0, 1, 2, 3, 4, 5, 6);
        // what was done up to now is let be
        x = laid("p1;g5;g4;g6;w0,4,9,99;w0,6,9,99;");
        x.take(0, 0);
        order(x, 14, 0, 1);
        x.pass(3);
        order(x, 14, 0, 1);
    }

    private static void promise17() {
        promise = 17;
        due("in time", laid(TABLE).late(), 0);
        due("nothing", laid("p1;g1;").late(), 0);
        // 1 from 0 to 5, 0 from 5 to 6, 2 from 10 to 19: it begins 4 seconds behind the end of what it answers
        String table = "p1;p1;p1;g1;g5;g9;w0,1,9,99;w1,5,9,99;w1,9,9,0;";
        order(laid(table + "a3;"), 19, 1, 0, 2);
        due("4 seconds behind, 3", laid(table + "a3;").late(), 1);
        due("4 seconds behind, 4", laid(table + "a4;").late(), 0);
        due("4 seconds behind, 20", laid(table).late(), 0);
        // 1 from 0, 0 ends at 4 or 3, 2 begins at 24, when its person has listened by a grain of 12 seconds
        WhileSaltMelts x = laid("p1;p3;g1;g4;g9;w0,1,9,99;w1,3,9,99;w1,27,9,0;");
        order(x, 51, 1, 0, 2);
        due("20 seconds behind", x.late(), 0);
        x = laid("p1;p3;g1;g4;g9;w0,1,9,99;w1,2,9,99;w1,27,9,0;");
        order(x, 51, 1, 0, 2);
        due("21 seconds behind", x.late(), 1);
        due("late again", x.late(), 1);
        order(x, 51, 1, 0, 2);
        due("late again", x.late(), 1);
        // what it answers gets none
        due("answers what gets none", laid("p1;p1;g1;w0,2,9,99;w1,1,5,0;a0;").late(), 0);
        // two of them
        due("two", laid("p1;p1;p1;g1;g9;g9;a0;w0,1,0,99;w1,9,9,0;w2,9,9,0;").late(), 1);
    }

    private static void promise18() {
        promise = 18;
        WhileSaltMelts x = laid(TABLE);
        int[][] dishes = {{BAD, 1, 0}, {NONE, BAD, NONE}, {NONE, 1, BAD}};
        for (int i = 0; i < 3; i++) {
            for (int j = 0; j < 3; j++) {
                due("dish(" + i + ", " + j + ")", x.dish(i, j), dishes[i][j]);
            }
        }
        due("person 3", x.dish(3, 0), BAD);
        due("person 3", x.dish(0, 3), BAD);
        due("person -1", x.dish(-1, 0), BAD);
        due("person -1", x.dish(0, -1), BAD);
        due("nothing eaten", x.count(7), 0);
        due("nothing undone", x.count(8), 0);
        due("dry", x.person(1, 0), 5);
        // of several the lowest; one eaten is out
        x = laid("p1;p1;g5;w0,9,7,99;d0,5;d0,9;d0,6;d0,8;");
        due("lowest", x.dish(0, 1), 1);
        due("against", x.dish(1, 0), NONE);
        x.eat(1);
        due("nothing better", x.dish(0, 1), NONE);
        x.undo();
        x.eat(2);
        due("as good already", x.dish(0, 1), NONE);
        x = laid("p1;p1;g5;w0,20,7,99;d0,7;");
        due("too little", x.dish(0, 1), NONE);
        x.eat(0);
        due("eaten, it can not be again", x.dish(0, 1), NONE);
        // the greatest, not the first that is greater
        x = laid("p1;p1;g5;g5;w0,10,7,99;w0,15,6,99;d0,6;d0,7;d0,8;");
        due("greatest", x.dish(0, 1), 1);
        // while a grain melts too
        x = laid("p1;p1;g5;g5;w0,9,7,99;w1,5,6,99;d1,4;d0,9;");
        x.take(1, 1);
        due("while one melts", x.dish(0, 1), 1);
        due("against him", x.dish(1, 0), NONE);
        due("no dishes", new WhileSaltMelts().dish(0, 1), NONE);
        // wetter makes worth less for the other
        x = laid("p9;p9;g1;g1;w0,9,7,99;w1,9,6,99;d0,5;d1,4;");
        due("wetter", x.dish(0, 1), 1);
    }

    private static void promise19() {
        promise = 19;
        WhileSaltMelts x = laid("p3;p1;g1;g2;g3;g4;g3;d0,9;d0,0;");
        due("9 by 3 is 3", x.spoke(0, 9, 0), 3);
        due("no grain in each", x.spoke(0, 9, 1), 0);
        due("3 by 3", x.spoke(0, 3, 0), 1);
        due("the one", x.spoke(0, 3, 1), 1);
        due("not by 3", x.spoke(0, 10, 0), 0);
        due("none", x.spoke(0, 10, 1), 0);
        due("12: all but one", x.spoke(1, 12, 0), 1);
        due("12: all but one", x.spoke(1, 12, 1), 30);
        due("11", x.spoke(1, 11, 0), 1);
        due("11", x.spoke(1, 11, 1), 29);
        due("10", x.spoke(1, 10, 0), 3);
        due("10: in each the 4", x.spoke(1, 10, 1), 8);
        due("13", x.spoke(1, 13, 1), 31);
        due("14", x.spoke(1, 14, 0), 0);
        x.eat(0);
        x.pass(1);
        x.take(1, 3);
        due("as told", x.spoke(0, 9, 0), 3);
        due("those taken, too", x.spoke(1, 10, 1), 8);
        due("n 0", x.spoke(0, 0, 0), BAD);
        due("n 501", x.spoke(0, 501, 0), BAD);
        due("n 500", x.spoke(0, 500, 0), 0);
        due("n 500", x.spoke(0, 500, 1), 0);
        due("n -1", x.spoke(0, -1, 0), BAD);
        due("what 2", x.spoke(0, 9, 2), BAD);
        due("what -1", x.spoke(0, 9, -1), BAD);
        due("person 2", x.spoke(2, 9, 0), BAD);
        due("person -1", x.spoke(-1, 9, 0), BAD);
        x = laid("p1;g1;g1;g1;g1;g1;g1;g1;g1;");
        due("four of eight", x.spoke(0, 4, 0), 70);
        due("all of eight", x.spoke(0, 8, 1), 255);
    }

    private static void promise20() {
        promise = 20;
        WhileSaltMelts x = new WhileSaltMelts();
        due("worth", x.winter(5, 100, -1), 612);
        due("seconds", x.winter(5, 100, 0), 440);
        due("seconds", x.winter(5, 100, 1), 1120);
        // z 0: x is 1, DRAW 1: person 1 by grain 0 says saying 1, 20 seconds long, worth 7
        due("one evening", x.winter(0, 1, -1), 7);
        due("one evening", x.winter(0, 1, 0), 0);
        due("one evening", x.winter(0, 1, 1), 20);
        // z 9999: x is 79182082, DRAW 51303: person 1 by grain 51303 / 8 = 6412, that is grain 0 again
        due("last winter", x.winter(9999, 1, 1), 20);
        due("z -1", x.winter(-1, 1, 0), BAD);
        due("z 10000", x.winter(10000, 1, 0), BAD);
        due("n 0", x.winter(0, 0, 0), BAD);
        due("n 101", x.winter(0, 101, 0), BAD);
        due("i -2", x.winter(0, 1, -2), BAD);
        due("i 2", x.winter(0, 1, 2), BAD);
        // as laid, whatever was done
        x.take(0, 0);
        x.say(0);
        x.pass(10);
        due("worth", x.winter(5, 100, -1), 612);
        due("seconds", x.winter(5, 100, 0), 440);
        due("a winter changes nothing", x.count(8), 3);
        x = laid(TABLE);
        int worth = x.winter(77, 100, -1);
        x.eat(0);
        x.eat(1);
        x.eat(2);
        due("as dry as told", x.winter(77, 100, -1), worth);
        due("worth", worth, 2568);
        due("seconds", x.winter(77, 100, 0), 240);
        due("seconds", x.winter(77, 100, 2), 136);
        due("nothing to say", laid("p1;g1;").winter(3, 100, 0), 0);
    }

    private static void promise21() {
        promise = 21;
        WhileSaltMelts x = laid(TABLE);
        due("keep", x.keep(), 1);
        due("kept", x.count(9), 1);
        x.pass(3);
        due("keep", x.keep(), 2);
        due("keep", x.keep(), FULL);
        due("kept", x.count(9), 2);
        due("undoable still", x.count(8), 1);
        x.pass(4);
        due("back", x.back(), 1);
        due("the second kept", x.count(4), 3);
        due("keep again", x.keep(), 2);
    }

    private static void promise22() {
        promise = 22;
        WhileSaltMelts x = laid(TABLE);
        due("nothing kept", x.back(), NO);
        x.take(1, 3);
        x.pass(1);
        x.say(4);
        x.keep();
        x.pass(100);
        x.eat(0);
        x.take(0, 0);
        x.say(0);
        x.keep();
        x.pass(100);
        due("back", x.back(), 1);
        counts(x, 3, 5, 6, 3, 116, 22, 17, 1, 0, 1, TABLE.length());
        due("undo", x.undo(), NO);
        due("share", x.person(0, 1), 10);
        due("dry", x.person(0, 0), 6);
        x.wipe();
        due("back", x.back(), 0);
        counts(x, 3, 5, 6, 3, 6, 23, 16, 0, 0, 0, 0);
        due("share", x.person(0, 1), 0);
        due("share", x.person(1, 1), 5);
        due("dry", x.person(0, 0), 3);
        due("ended", x.saying(4, 4), 6);
        due("not said", x.saying(0, 4), NONE);
        due("listens", x.person(1, 2), 90);
        due("listens", x.person(0, 2), 0);
        due("it melts again", x.eat(0), NO);
        due("back", x.back(), NO);
        x = laid("p9;p1;g9;g9;w0,60,1,99;w0,9,1,99;");
        x.take(0, 0);
        x.say(0);
        x.keep();
        x.pass(21);
        x.take(1, 1);
        x.back();
        due("again his", x.say(1), 69);
        due("ended", x.saying(0, 4), 60);
        x.undo();
        x.pass(21);
        x.keep();
        x.undo();
        due("what is kept stays so", x.say(1), 69);
        x.back();
        due("not said", x.saying(1, 4), NONE);
        x = laid("p9;g9;w0,60,1,99;");
        x.take(0, 0);
        x.say(0);
        x.keep();
        x.undo();
        x.pass(10);
        due("later", x.say(0), 70);
        x.back();
        due("ended as kept", x.saying(0, 4), 60);
        // undo lets be what is kept
        x = laid(TABLE);
        x.pass(6);
        x.pass(2);
        x.keep();
        x.undo();
        due("second", x.count(4), 6);
        due("kept", x.count(9), 1);
        due("back", x.back(), 0);
        due("second", x.count(4), 8);
    }

    private static void promise23() {
        promise = 23;
        WhileSaltMelts x = laid(TABLE);
        due("what -1", x.count(-1), BAD);
        due("what 11", x.count(11), BAD);
        due("most", x.count(Integer.MAX_VALUE), BAD);
        counts(x, 3, 5, 6, 3, 0, 31, 0, 0, 0, 0, TABLE.length());
        x.eat(2);
        x.pass(3);
        x.take(0, 3);
        x.say(0);
        x.keep();
        x.wipe();
        x.write(5, 0);
        counts(x, 3, 5, 6, 3, 13, 23, 1, 4, 4, 1, 5);
    }

    public static void main(String[] args) {
        constants();
        promise1();
        promise2();
        promise3();
        promise4();
        promise5();
        promise6();
        promise7();
        promise8();
        promise9();
        promise10();
        promise11();
        promise12();
        promise13();
        promise14();
        promise15();
        promise16();
        promise17();
        promise18();
        promise19();
        promise20();
        promise21();
        promise22();
        promise23();
        System.out.println(wrong == 0 ? "all answers are as due" : wrong + " answers are not as due");
        if (wrong != 0) {
            System.exit(1);
        }
    }
}
