/** Promises 1 to 8: each sentence that names a boundary case, with the case just inside it and the case just outside it. */
public final class TableBoundaries extends Boundary {
    public static void main(String[] arguments) {
        run(TableBoundaries.class, arguments);
    }

    // ---- promise 1, a new object

    @Words("BAD = -1, NO = -2, FULL = -3, NONE = -4")
    static void promise1_constants() {
        due("BAD", WhileSaltMelts.BAD, -1);
        due("NO", WhileSaltMelts.NO, -2);
        due("FULL", WhileSaltMelts.FULL, -3);
        due("NONE", WhileSaltMelts.NONE, -4);
    }

    @Words("at first p3;p5;g4;g6;w0,10,5,99;w1,20,7,0;")
    static void promise1_toldAtFirst() {
        WhileSaltMelts x = new WhileSaltMelts();
        due("persons", x.count(0), 2);
        due("grains", x.count(1), 2);
        due("sayings", x.count(2), 2);
        due("dishes", x.count(3), 0);
        int[] dry = {3, 5, BAD};
        int[] firstGrain = {12, 20, BAD};
        int[] secondGrain = {18, 30, BAD};
        for (int i = 0; i <= 2; i++) {
            due("person " + i, x.person(i, 0), dry[i]);
            due("grain 0 for " + i, x.melts(i, 0), firstGrain[i]);
            due("grain 1 for " + i, x.melts(i, 1), secondGrain[i]);
            due("grain 2 for " + i, x.melts(i, 2), BAD);
        }
        int[][] sayings = {{0, 10, 5, NONE, NONE}, {1, 20, 7, 0, NONE}, {BAD, BAD, BAD, BAD, BAD}};
        for (int s = 0; s <= 2; s++) {
            for (int what = 0; what <= 4; what++) {
                due("saying " + s + ", " + what, x.saying(s, what), sayings[s][what]);
            }
        }
        due("dish 0", x.eat(0), BAD);
    }

    @Words("It is second 0 at first.")
    static void promise1_secondZeroAtFirst() {
        WhileSaltMelts x = new WhileSaltMelts();
        due("second", x.count(4), 0);
        due("grain taken at second 0", x.take(0, 0), 12);
        x = new WhileSaltMelts();
        due("first second gone by", x.pass(1), 1);
    }

    @Words("THE TEXT is empty.")
    static void promise1_textIsEmpty() {
        WhileSaltMelts x = new WhileSaltMelts();
        due("bytes", x.count(10), 0);
        due("fault", x.fault(), NONE);
        due("lay", x.lay(), NO);
        due("first byte", x.write(1, 'p'), 1);
        due("fault", x.fault(), 0);
        due("wipe of another", new WhileSaltMelts().wipe(), 0);
    }

    @Words("all GRAINS in THE SHAKER, nothing said, eaten, UNDONE, KEPT")
    static void promise1_nothingDoneAtFirst() {
        WhileSaltMelts x = new WhileSaltMelts();
        int[] none = {3, 0, 0, 0, 0};
        for (int what = 5; what <= 9; what++) {
            due("count " + what, x.count(what), none[what - 5]);
        }
        due("undo", x.undo(), NO);
        due("back", x.back(), NO);
        x.take(0, 0);
        due("undo of the first", x.undo(), 0);
    }

    @Words("An object is used for at most 512 calls after it has been made")
    static void promise1_fiveHundredTwelveCalls() {
        WhileSaltMelts x = new WhileSaltMelts();
        for (int call = 1; call <= 510; call++) {
            due("call " + call, x.pass(1), call);
        }
        due("call 511", x.undo(), 7);
        due("call 512", x.count(4), 509);
        // nor may a dear call use anything up before the last one
        x = new WhileSaltMelts();
        x.write(6, 0x70313B67313BL);
        for (int call = 2; call <= 511; call++) {
            due("call " + call, x.lay(), 1);
        }
        due("call 512", x.take(0, 0), 1);
    }

    // ---- promise 2, write

    @Words("A TEXT is bytes (300 at most)")
    static void promise2_threeHundredBytesAtMost() {
        for (int n = 1; n <= 8; n++) {
            WhileSaltMelts x = new WhileSaltMelts();
            for (int length = 1; length <= 300 - n; length++) {
                x.write(1, 'x');
            }
            due("to 300 by " + n, x.write(n, 0), 300);
            due("to 301", x.write(1, 0), FULL);
            x = new WhileSaltMelts();
            for (int length = 1; length <= 301 - n; length++) {
                x.write(1, 'x');
            }
            due("to 301 by " + n, x.write(n, 0), FULL);
            due("bytes", x.count(10), 301 - n);
        }
    }

    @Words("The lowest n bytes (1 to 8) of v")
    static void promise2_oneToEightBytes() {
        WhileSaltMelts x = new WhileSaltMelts();
        due("n 0", x.write(0, 0), BAD);
        due("n 1", x.write(1, 0), 1);
        due("n 8", x.write(8, 0), 9);
        due("n 9", x.write(9, 0), BAD);
        due("n -1", x.write(-1, 0), BAD);
        due("n most", x.write(MOST, 0), BAD);
        due("n least", x.write(LEAST, 0), BAD);
        due("bytes", x.count(10), 9);
    }

    @Words("The lowest n bytes")
    static void promise2_higherBytesAreLetBe() {
        // p9;g9;a is 0x70393B67393B61, and by one byte more it would not begin with p
        long text = 0x70393B67393B3B61L;
        WhileSaltMelts x = new WhileSaltMelts();
        x.write(6, text >> 16 | -1L << 48);
        due("fault", x.fault(), NONE);
        due("lay", x.lay(), 1);
        x.wipe();
        x.write(7, text >> 16 | -1L << 48);
        due("fault with the byte above", x.fault(), 0);
        x.wipe();
        x.write(5, text >> 16);
        due("fault without the highest", x.fault(), 0);
    }

    @Words("the highest of these first")
    static void promise2_highestByteFirst() {
        WhileSaltMelts x = new WhileSaltMelts();
        x.write(3, 'p' << 16 | '7' << 8 | ';');
        x.write(3, 'g' << 16 | '2' << 8 | ';');
        due("highest first", x.lay(), 1);
        due("p7;", x.person(0, 0), 7);
        due("g2;", x.melts(0, 0), 14);
        x = new WhileSaltMelts();
        x.write(3, ';' << 16 | '7' << 8 | 'p');
        due("lowest first", x.fault(), 0);
        // the highest bit of all is one of v's, not its sign
        x = new WhileSaltMelts();
        x.write(8, 0x80L << 56);
        due("a byte of 128", x.fault(), 0);
    }

    @Words("come behind THE TEXT: how long it is.")
    static void promise2_behindTheText() {
        WhileSaltMelts x = new WhileSaltMelts();
        due("behind nothing", x.write(3, 0x70313BL), 3);
        due("behind 3", x.write(3, 0x67313BL), 6);
        due("behind 6", x.write(1, 'x'), 7);
        due("fault", x.fault(), 6);
    }

    @Words("Of several the first in this order")
    static void promise2_badAheadOfFull() {
        WhileSaltMelts x = told(times(100, "a0;"));
        due("n 1 on 300", x.write(1, 0), FULL);
        due("n 8 on 300", x.write(8, 0), FULL);
        due("n 0 on 300", x.write(0, 0), BAD);
        due("n 9 on 300", x.write(9, 0), BAD);
        due("n most on 300", x.write(MOST, 0), BAD);
        due("n least on 300", x.write(LEAST, 0), BAD);
    }

    @Words("nothing changes then")
    static void promise2_refusedChangesNothing() {
        refused("write(9)", x -> x.pass(1), x -> x.write(9, 'p'), BAD);
        refused("write(0)", x -> x.pass(1), x -> x.write(0, 'p'), BAD);
        refused("write when full", x -> tell(x, times(99, "a0;") + "p"), x -> x.write(3, 'p'), FULL);
        // no byte of what is refused has come behind the text
        WhileSaltMelts x = told(times(99, "a0;") + "p");
        due("by 3", x.write(3, 0x313B3BL), FULL);
        due("by 2", x.write(2, 0x313BL), 300);
        due("fault", x.fault(), NONE);
    }

    // ---- promise 3, wipe

    @Words("THE TEXT is empty: how long it was.")
    static void promise3_howLongItWas() {
        WhileSaltMelts x = new WhileSaltMelts();
        due("of none", x.wipe(), 0);
        x.write(1, 'x');
        due("of one", x.wipe(), 1);
        due("again", x.wipe(), 0);
        tell(x, times(99, "a0;") + "a0");
        due("of 299", x.wipe(), 299);
        tell(x, times(100, "a0;"));
        due("of 300", x.wipe(), 300);
        due("bytes", x.count(10), 0);
        due("fault", x.fault(), NONE);
    }

    @Words("THE TEXT is empty")
    static void promise3_roomAgain() {
        WhileSaltMelts x = told(times(100, "a0;"));
        due("full", x.write(1, 'x'), FULL);
        x.wipe();
        tell(x, "p1;g1;" + times(98, "a0;"));
        due("300 again", x.count(10), 300);
        due("lay", x.lay(), 1);
        due("full again", x.write(1, 'x'), FULL);
    }

    // ---- promise 4, fault

    @Words("each a letter")
    static void promise4_aLetter() {
        for (int sign = 0; sign < 256; sign++) {
            boolean told = sign == 'p' || sign == 'g' || sign == 'a';
            faultAt((char) sign + "1;", told ? NONE : 0);
            faultAt("p1;" + (char) sign + "0,1;", sign == 'd' ? NONE : 3);
            faultAt("p1;" + (char) sign + "0,1,1,99;", sign == 'w' ? NONE : 3);
        }
        faultAt("1;", 0);
        faultAt("pp1;", 0);
    }

    @Words("numbers (one or two figures)")
    static void promise4_oneOrTwoFigures() {
        faultAt("p;", 0);
        faultAt("p1;", NONE);
        faultAt("p01;", NONE);
        faultAt("p001;", 0);
        faultAt("a;", 0);
        faultAt("a000;", 0);
        String[] good = {"w0,1,0,99;", "w00,1,0,99;", "w0,01,0,99;", "w0,1,00,99;", "d0,5;", "d00,5;", "d0,05;"};
        for (String item : good) {
            faultAt("p1;" + item, NONE);
        }
        String[] bad = {"w,1,0,99;", "w000,1,0,99;", "w0,,0,99;", "w0,001,0,99;", "w0,1,,99;", "w0,1,000,99;", "w0,1,0,;",
            "w0,1,0,099;", "d,5;", "d000,5;", "d0,;", "d0,005;"};
        for (String item : bad) {
            faultAt("p1;" + item, 3);
        }
        // the figures go from 0 to 9, and what stands beside them is none
        faultAt("a0;a9;a09;a90;", NONE);
        for (char sign : new char[] {'/', ':', ' ', '-', '+', (char) 0xB1, (char) 0xFF}) {
            faultAt("a" + sign + ";", 0);
            faultAt("a1" + sign + ";", 0);
            faultAt("a" + sign + "1;", 0);
        }
    }

    @Words("parted by ,")
    static void promise4_partedByCommas() {
        faultAt("p1;d0,1;", NONE);
        for (char sign : new char[] {'+', '-', '.', ' ', ';'}) {
            faultAt("p1;d0" + sign + "1;", 3);
        }
        faultAt("p1;d0,,1;", 3);
        faultAt("p1;d,0,1;", 3);
        faultAt("p1;d0,1,;", 3);
        // as many as the letter has
        faultAt("p1,1;", 0);
        faultAt("g1,1;", 0);
        faultAt("a1,1;", 0);
        faultAt("p1;d0;", 3);
        faultAt("p1;d0,1,1;", 3);
        faultAt("p1;w0,1,0;", 3);
        faultAt("p1;w0,1,0,99;", NONE);
        faultAt("p1;w0,1,0,99,99;", 3);
    }

    @Words("and ; (behind the last one, too)")
    static void promise4_semicolonBehindTheLastToo() {
        faultAt("p1;g1;", NONE);
        faultAt("p1;g1", 3);
        faultAt("p1;g1;;", 6);
        faultAt(";p1;", 0);
        faultAt("p1g1;", 0);
        for (char sign : new char[] {':', '<', ' ', '\n', 0}) {
            faultAt("p1" + sign, 0);
            faultAt("p1;" + sign, 3);
        }
    }

    @Words("pD a PERSON whose mouth is D dry (1 to 9)")
    static void promise4_dryOneToNine() {
        faultAt("p0;", 0);
        faultAt("p00;", 0);
        faultAt("p1;", NONE);
        faultAt("p9;", NONE);
        faultAt("p09;", NONE);
        faultAt("p10;", 0);
        faultAt("p99;", 0);
        WhileSaltMelts x = laid("p1;p9;g1;");
        due("1 dry", x.person(0, 0), 1);
        due("9 dry", x.person(1, 0), 9);
    }

    @Words("5 at most, 0, 1, ..")
    static void promise4_fivePersonsAtMost() {
        faultAt(times(5, "p1;"), NONE);
        faultAt(times(6, "p1;"), 15);
        faultAt(times(5, "p1;") + "g1;p1;", 18);
        WhileSaltMelts x = laid("p1;p2;p3;p4;p5;g1;");
        for (int i = 0; i < 5; i++) {
            due("person " + i, x.person(i, 0), i + 1);
        }
        due("person 5", x.person(5, 0), BAD);
    }

    @Words("gS a GRAIN of size S (1 to 9)")
    static void promise4_sizeOneToNine() {
        faultAt("g0;", 0);
        faultAt("g00;", 0);
        faultAt("g1;", NONE);
        faultAt("g9;", NONE);
        faultAt("g09;", NONE);
        faultAt("g10;", 0);
        faultAt("g99;", 0);
        WhileSaltMelts x = laid("p1;g1;g9;");
        due("size 1", x.melts(0, 0), 1);
        due("size 9", x.melts(0, 1), 9);
    }

    @Words("8 at most, 0, 1, ..")
    static void promise4_eightGrainsAtMost() {
        faultAt(times(8, "g1;"), NONE);
        faultAt(times(9, "g1;"), 24);
        faultAt(times(8, "g1;") + "p1;g1;", 27);
        WhileSaltMelts x = laid("p1;g1;g2;g3;g4;g5;g6;g7;g8;");
        for (int g = 0; g < 8; g++) {
            due("grain " + g, x.melts(0, g), g + 1);
        }
        due("grain 8", x.melts(0, 8), BAD);
    }

    @Words("wI,L,V,A a SAYING of PERSON I (told ahead)")
    static void promise4_sayingOfAPersonToldAhead() {
        faultAt("p1;w0,1,0,99;", NONE);
        faultAt("p1;w1,1,0,99;", 3);
        faultAt("w0,1,0,99;", 0);
        faultAt("w0,1,0,99;p1;", 0);
        faultAt("p1;w1,1,0,99;p1;", 3);
        faultAt("p1;p1;w1,1,0,99;", NONE);
        faultAt(times(5, "p1;") + "w4,1,0,99;", NONE);
        faultAt(times(5, "p1;") + "w5,1,0,99;", 15);
        faultAt(times(5, "p1;") + "w99,1,0,99;", 15);
    }

    @Words("L seconds long (1 to 60)")
    static void promise4_oneToSixtySecondsLong() {
        faultAt("p1;w0,0,0,99;", 3);
        faultAt("p1;w0,00,0,99;", 3);
        faultAt("p1;w0,1,0,99;", NONE);
        faultAt("p1;w0,60,0,99;", NONE);
        faultAt("p1;w0,61,0,99;", 3);
        faultAt("p1;w0,99,0,99;", 3);
        WhileSaltMelts x = laid("p1;g1;w0,1,0,99;w0,60,0,99;");
        due("1 long", x.saying(0, 1), 1);
        due("60 long", x.saying(1, 1), 60);
    }

    @Words("worth V (0 to 99)")
    static void promise4_worthZeroToNinetyNine() {
        faultAt("p1;w0,1,0,99;", NONE);
        faultAt("p1;w0,1,99,99;", NONE);
        faultAt("p1;w0,1,100,99;", 3);
        faultAt("p1;w0,1,-1,99;", 3);
        WhileSaltMelts x = laid("p1;g1;w0,1,0,99;w0,1,99,99;");
        due("worth 0", x.saying(0, 2), 0);
        due("worth 99", x.saying(1, 2), 99);
    }

    @Words("that answers SAYING A (told ahead")
    static void promise4_answersASayingToldAhead() {
        faultAt("p1;p1;w0,1,0,99;w1,1,0,0;", NONE);
        faultAt("p1;p1;w0,1,0,99;w1,1,0,1;", 16);
        faultAt("p1;p1;w1,1,0,0;", 6);
        faultAt("p1;p1;w0,1,0,1;w1,1,0,99;", 6);
        faultAt("p1;p1;w0,1,0,99;w1,1,0,2;w0,1,0,99;", 16);
        String six = "p1;p1;w0,1,0,99;" + times(5, "w1,1,0,0;");
        faultAt(six + "w0,1,0,5;", NONE);
        faultAt(six + "w0,1,0,6;", six.length());
        faultAt(six + "w0,1,0,7;", six.length());
    }

    @Words("of another PERSON)")
    static void promise4_answersAnotherPerson() {
        faultAt("p1;p1;w0,1,0,99;w1,1,0,0;", NONE);
        faultAt("p1;p1;w0,1,0,99;w0,1,0,0;", 16);
        faultAt("p1;p1;w0,1,0,99;w1,1,0,99;w0,1,0,1;", NONE);
        faultAt("p1;p1;w0,1,0,99;w1,1,0,99;w1,1,0,1;", 26);
    }

    @Words("or none (A 99)")
    static void promise4_answersNoneBy99() {
        faultAt("p1;w0,1,0,99;", NONE);
        faultAt("p1;w0,1,0,98;", 3);
        faultAt("p1;w0,1,0,9;", 3);
        due("none", laid("p1;g1;w0,1,0,99;").saying(0, 3), NONE);
        due("saying 0", laid("p1;p1;g1;w0,1,0,99;w1,1,0,0;").saying(1, 3), 0);
    }

    @Words("7 at most, 0, 1, ..")
    static void promise4_sevenSayingsAtMost() {
        faultAt("p1;" + times(7, "w0,1,0,99;"), NONE);
        faultAt("p1;" + times(8, "w0,1,0,99;"), 73);
        WhileSaltMelts x = laid("p1;g1;w0,1,0,99;w0,2,0,99;w0,3,0,99;w0,4,0,99;w0,5,0,99;w0,6,0,99;w0,7,0,99;");
        for (int s = 0; s < 7; s++) {
            due("saying " + s, x.saying(s, 1), s + 1);
        }
        due("saying 7", x.saying(7, 1), BAD);
    }

    @Words("W seconds (0 to 99)")
    static void promise4_windowZeroToNinetyNine() {
        faultAt("a0;", NONE);
        faultAt("a99;", NONE);
        faultAt("a100;", 0);
        faultAt("a-1;", 0);
    }

    @Words("of several such the last one counts")
    static void promise4_anyNumberOfWindows() {
        faultAt("a1;a2;", NONE);
        faultAt(times(100, "a0;"), NONE);
        faultAt(times(74, "a99;") + "a99", 296);
    }

    @Words("dI,E a DISH makes the mouth of PERSON I (told ahead)")
    static void promise4_dishOfAPersonToldAhead() {
        faultAt("p1;d0,5;", NONE);
        faultAt("p1;d1,5;", 3);
        faultAt("d0,5;", 0);
        faultAt("d0,5;p1;", 0);
        faultAt("p1;d1,5;p1;", 3);
        faultAt("p1;p1;d1,5;", NONE);
        faultAt(times(5, "p1;") + "d4,5;", NONE);
        faultAt(times(5, "p1;") + "d5,5;", 15);
        faultAt(times(5, "p1;") + "d99,5;", 15);
    }

    @Words("by E less 5 (E 0 to 9) drier")
    static void promise4_dishZeroToNine() {
        faultAt("p1;d0,0;", NONE);
        faultAt("p1;d0,9;", NONE);
        faultAt("p1;d0,09;", NONE);
        faultAt("p1;d0,10;", 3);
        faultAt("p1;d0,99;", 3);
        faultAt("p1;d0,-1;", 3);
    }

    @Words("4 at most, 0, 1, ..")
    static void promise4_fourDishesAtMost() {
        faultAt("p1;" + times(4, "d0,5;"), NONE);
        faultAt("p1;" + times(5, "d0,5;"), 23);
        WhileSaltMelts x = laid("p1;p2;p3;p4;g1;d0,5;d1,5;d2,5;d3,5;");
        for (int d = 0; d < 4; d++) {
            due("dish " + d, x.eat(d), d + 1);
        }
        due("dish 4", x.eat(4), BAD);
    }

    @Words("FAULT: the place (from 0 on) of the first byte of the first ITEM that is not so")
    static void promise4_firstByteOfTheFirstFault() {
        faultAt("p0;g1;", 0);
        faultAt("p1;g0;", 3);
        faultAt("p01;g0;", 4);
        faultAt("p1;g0;p0;", 3);
        faultAt("p1;g0;x", 3);
        faultAt("p1;g1;x", 6);
        // not the byte that is wrong, the first of its item
        faultAt("p1;w0,1,0,98;", 3);
        faultAt("p1;w0,1,0,9x;", 3);
    }

    @Words("one that the end cuts short, too")
    static void promise4_cutShortByTheEnd() {
        String text = "p1;w0,10,50,99;d0,5;";
        for (int length = 0; length <= text.length(); length++) {
            boolean whole = length == 0 || length == 3 || length == 15 || length == 20;
            int first = length < 3 ? 0 : length < 15 ? 3 : 15;
            faultAt(text.substring(0, length), whole ? NONE : first);
        }
        // what stood there before the wipe is not read
        WhileSaltMelts x = told("p1;g1;");
        tell(x, "p1;g");
        due("fault", x.fault(), 3);
        tell(x, "p1;g1");
        due("fault", x.fault(), 3);
        tell(x, "p1;g1;");
        due("fault", x.fault(), NONE);
    }

    @Words("an empty TEXT has none")
    static void promise4_anEmptyTextHasNone() {
        WhileSaltMelts x = new WhileSaltMelts();
        due("new", x.fault(), NONE);
        x.write(1, ' ');
        due("one byte", x.fault(), 0);
        x.wipe();
        due("wiped", x.fault(), NONE);
    }

    @Words("A TEXT is bytes (300 at most)")
    static void promise4_fullText() {
        String text = "p1;g1;" + times(97, "a0;");
        faultAt(text + "a0;", NONE);
        faultAt(text + "a00", 297);
        faultAt(text + "x0;", 297);
        faultAt(text + "a0", 297);
        faultAt(text, NONE);
    }

    // ---- promise 5, lay

    @Words("LAID is a TEXT without FAULT")
    static void promise5_withoutFault() {
        due("without", told("p1;g1;").lay(), 1);
        due("cut short", told("p1;g1").lay(), NO);
        due("a fault behind it", told("p1;g1;x").lay(), NO);
        due("a fault at the end of 300", told("p1;g1;" + times(97, "a0;") + "a0").lay(), NO);
        due("300", told("p1;g1;" + times(98, "a0;")).lay(), 1);
    }

    @Words("of a PERSON and a GRAIN at least (NO else")
    static void promise5_aPersonAndAGrainAtLeast() {
        due("nothing", told("").lay(), NO);
        due("no person, no grain", told("a5;").lay(), NO);
        due("a person", told("p1;").lay(), NO);
        due("persons", told(times(5, "p1;")).lay(), NO);
        due("a grain", told("g1;").lay(), NO);
        due("grains", told(times(8, "g1;")).lay(), NO);
        due("all but a grain", told("p1;w0,1,1,99;d0,5;a5;").lay(), NO);
        due("both", told("p1;g1;").lay(), 1);
        due("both, the grain first", told("g1;p1;").lay(), 1);
    }

    @Words("LAID is a TEXT")
    static void promise5_whatWasLaidIsGone() {
        String most = times(5, "p9;") + times(8, "g9;") + times(7, "w0,9,9,99;") + times(4, "d0,9;") + "a0;";
        WhileSaltMelts x = laid(most);
        tell(x, "p1;g1;");
        for (int lays = 1; lays <= 3; lays++) {
            due("lay", x.lay(), 1);
            int[] told = {1, 1, 0, 0};
            for (int what = 0; what <= 3; what++) {
                due("count " + what, x.count(what), told[what]);
            }
            due("person 1", x.person(1, 0), BAD);
            due("grain 1", x.melts(0, 1), BAD);
            due("saying 0", x.saying(0, 0), BAD);
            due("dish 0", x.eat(0), BAD);
        }
        // and the other way: as much as there can be, behind as much as there can be
        tell(x, most);
        due("the most", x.lay(), 5);
        due("again", x.lay(), 5);
        int[] told = {5, 8, 7, 4};
        for (int what = 0; what <= 3; what++) {
            due("count " + what, x.count(what), told[what]);
        }
    }

    @Words("LAID: how many PERSONS")
    static void promise5_howManyPersons() {
        for (int persons = 1; persons <= 5; persons++) {
            due("persons", told(times(persons, "p1;") + "g1;").lay(), persons);
        }
        due("six", told(times(6, "p1;") + "g1;").lay(), NO);
    }

    @Words("second 0")
    static void promise5_secondZero() {
        WhileSaltMelts x = told(SMALL);
        passTo(x, 9999);
        x.lay();
        due("second", x.count(4), 0);
        due("room for seconds again", x.pass(600), 600);
        x.take(1, 1);
        x.lay();
        due("no grain melts", x.take(1, 0), 20);
        due("and he has not to listen", x.person(1, 2), 40);
    }

    @Words("all GRAINS in THE SHAKER")
    static void promise5_allGrainsInTheShaker() {
        due("one", laid("p1;g1;").count(5), 1);
        due("eight", laid("p1;" + times(8, "g1;")).count(5), 255);
        WhileSaltMelts x = laid("p1;g1;g1;");
        x.take(0, 0);
        x.pass(2);
        x.take(0, 1);
        due("none", x.count(5), 0);
        x.lay();
        due("all", x.count(5), 3);
        due("take", x.take(0, 0), 1);
    }

    @Words("nothing said")
    static void promise5_nothingSaid() {
        WhileSaltMelts x = laid(SMALL);
        x.take(0, 0);
        x.say(0);
        due("said", x.count(6), 1);
        x.lay();
        due("nothing said", x.count(6), 0);
        due("share", x.person(0, 1), 0);
        due("ended", x.saying(0, 4), NONE);
        x.take(0, 0);
        due("say", x.say(0), 10);
    }

    @Words("nothing said, eaten")
    static void promise5_nothingEaten() {
        WhileSaltMelts x = laid(SMALL);
        x.eat(0);
        due("drier", x.person(0, 0), 4);
        x.lay();
        due("eaten", x.count(7), 0);
        due("as told", x.person(0, 0), 3);
        due("eat", x.eat(0), 4);
    }

    @Words("nothing said, eaten, UNDONE")
    static void promise5_nothingUndone() {
        WhileSaltMelts x = laid(SMALL);
        x.pass(1);
        due("one", x.count(8), 1);
        x.lay();
        due("none", x.count(8), 0);
        due("undo", x.undo(), NO);
        x.pass(1);
        due("the first", x.undo(), 0);
        due("no more", x.undo(), NO);
    }

    @Words("nothing said, eaten, UNDONE, KEPT")
    static void promise5_nothingKept() {
        WhileSaltMelts x = laid(SMALL);
        x.keep();
        x.keep();
        x.lay();
        due("kept", x.count(9), 0);
        due("back", x.back(), NO);
        due("keep", x.keep(), 1);
        due("keep", x.keep(), 2);
    }

    @Words("THE TEXT stays")
    static void promise5_theTextStays() {
        WhileSaltMelts x = laid(SMALL);
        due("bytes", x.count(10), SMALL.length());
        due("lay again", x.lay(), 2);
        due("behind it", x.write(3, 'p' << 16 | '1' << 8 | ';'), SMALL.length() + 3);
        due("not laid yet", x.count(0), 2);
        due("laid", x.lay(), 3);
        due("wipe", x.wipe(), SMALL.length() + 3);
        due("still laid", x.count(0), 3);
    }

    @Words("nothing changes then")
    static void promise5_refusedChangesNothing() {
        for (String text : new String[] {"", "p1;", "g1;", "p9;g9;w0,9,9,99;a0;d0,9;x", "p1;g1"}) {
            refused("lay of " + text, x -> {
                x.eat(0);
                x.take(0, 1);
                x.say(0);
                x.keep();
                x.pass(3);
                tell(x, text);
            }, x -> x.lay(), NO);
        }
        // the seconds an answer has are those of what is laid
        WhileSaltMelts x = laid("p1;p9;g5;g9;a3;w0,5,1,99;w1,5,1,0;");
        tell(x, "a0;");
        due("lay", x.lay(), NO);
        x.take(0, 0);
        x.say(0);
        x.take(1, 1);
        x.pass(3);
        due("answer", x.say(1), 13);
    }

    // ---- promise 6, person

    @Words("how dry he is now (what = 0)")
    static void promise6_howDryNow() {
        WhileSaltMelts x = laid("p1;p9;p4;g1;d0,6;d1,4;");
        due("1", x.person(0, 0), 1);
        due("9", x.person(1, 0), 9);
        x.eat(0);
        x.eat(1);
        due("2", x.person(0, 0), 2);
        due("8", x.person(1, 0), 8);
        due("who ate nothing", x.person(2, 0), 4);
    }

    @Words("SHARE of a PERSON: how many seconds he has SAID SAYINGS.")
    static void promise6_share() {
        WhileSaltMelts x = laid("p9;p1;g9;g9;w0,60,1,99;w0,1,1,99;w1,1,1,99;");
        due("at first", x.person(0, 1), 0);
        x.take(0, 0);
        due("melting, nothing said", x.person(0, 1), 0);
        x.pass(1);
        due("a second gone by", x.person(0, 1), 0);
        x.say(0);
        due("60 said", x.person(0, 1), 60);
        x.say(1);
        due("61 said", x.person(0, 1), 61);
        x.pass(60);
        due("gone by", x.person(0, 1), 61);
        due("another's", x.person(1, 1), 0);
        x.take(1, 1);
        x.say(2);
        due("his", x.person(1, 1), 1);
        due("not his", x.person(0, 1), 61);
    }

    @Words("the second until which he has to LISTEN, by what he took (2; also when that second is over; 0: he took none)")
    static void promise6_listensUntil() {
        WhileSaltMelts x = laid("p1;p9;g1;g9;");
        due("took none", x.person(0, 2), 0);
        x.take(0, 0);
        due("took one of 1 second at 0", x.person(0, 2), 2);
        due("another took none", x.person(1, 2), 0);
        passTo(x, 2);
        due("at that second", x.person(0, 2), 2);
        x.pass(1);
        due("over", x.person(0, 2), 2);
        x.take(1, 1);
        due("took one of 81 seconds at 3", x.person(1, 2), 165);
        x.undo();
        due("undone", x.person(1, 2), 0);
        // by what he took last
        x.take(0, 1);
        due("took one of 9 seconds at 3", x.person(0, 2), 21);
    }

    @Words("BAD: a number is none that is told (PERSONS .. such as there are)")
    static void promise6_badNumbers() {
        WhileSaltMelts x = new WhileSaltMelts();
        WhileSaltMelts y = laid(times(5, "p1;") + "g1;");
        for (int what = 0; what <= 2; what++) {
            due("person -1", x.person(-1, what), BAD);
            due("person 0", x.person(0, what), what == 0 ? 3 : 0);
            due("person 1", x.person(1, what), what == 0 ? 5 : 0);
            due("person 2", x.person(2, what), BAD);
            due("person 4 of 5", y.person(4, what), what == 0 ? 1 : 0);
            due("person 5 of 5", y.person(5, what), BAD);
            due("person most", x.person(MOST, what), BAD);
            due("person least", x.person(LEAST, what), BAD);
        }
    }

    @Words("how dry he is now (what = 0), SHARE (1), the second until which he has to LISTEN .. BAD.")
    static void promise6_badWhat() {
        WhileSaltMelts x = new WhileSaltMelts();
        due("what -1", x.person(0, -1), BAD);
        due("what 0", x.person(0, 0), 3);
        due("what 2", x.person(0, 2), 0);
        due("what 3", x.person(0, 3), BAD);
        due("what most", x.person(0, MOST), BAD);
        due("what least", x.person(0, LEAST), BAD);
    }

    // ---- promise 7, saying

    @Words("PERSON (what = 0), L (1), V (2)")
    static void promise7_asTold() {
        WhileSaltMelts x = laid(times(5, "p1;") + "g1;w0,1,0,99;w4,60,99,0;");
        int[][] sayings = {{0, 1, 0}, {4, 60, 99}};
        for (int s = 0; s <= 1; s++) {
            for (int what = 0; what <= 2; what++) {
                due("saying " + s + ", " + what, x.saying(s, what), sayings[s][what]);
            }
        }
    }

    @Words("what it answers (3; NONE)")
    static void promise7_whatItAnswers() {
        WhileSaltMelts x = laid("p1;p1;g1;w0,1,0,99;w1,1,0,0;" + times(4, "w0,1,0,1;") + "w1,1,0,5;");
        due("none", x.saying(0, 3), NONE);
        due("saying 0", x.saying(1, 3), 0);
        due("saying 1", x.saying(5, 3), 1);
        due("saying 5", x.saying(6, 3), 5);
    }

    @Words("when it ended (4; NONE: it is not said)")
    static void promise7_whenItEnded() {
        WhileSaltMelts x = laid(SMALL);
        due("not said", x.saying(0, 4), NONE);
        x.take(0, 0);
        due("not said yet", x.saying(0, 4), NONE);
        x.say(0);
        due("said", x.saying(0, 4), 10);
        due("another", x.saying(2, 4), NONE);
        x.pass(1);
        due("said before", x.saying(0, 4), 10);
        x.undo();
        x.undo();
        due("undone", x.saying(0, 4), NONE);
    }

    @Words("BAD: a number is none that is told .. SAYINGS .. such as there are)")
    static void promise7_badNumbers() {
        WhileSaltMelts x = new WhileSaltMelts();
        WhileSaltMelts y = laid("p1;g1;" + times(7, "w0,1,0,99;"));
        WhileSaltMelts none = laid("p1;g1;");
        for (int what = 0; what <= 4; what++) {
            due("saying -1", x.saying(-1, what), BAD);
            due("saying 2 of 2", x.saying(2, what), BAD);
            due("saying 7 of 7", y.saying(7, what), BAD);
            due("saying 99", x.saying(99, what), BAD);
            due("saying most", x.saying(MOST, what), BAD);
            due("saying least", x.saying(LEAST, what), BAD);
            due("saying 0 of none", none.saying(0, what), BAD);
        }
        due("saying 1 of 2", x.saying(1, 1), 20);
        due("saying 6 of 7", y.saying(6, 1), 1);
    }

    @Words("PERSON (what = 0) .. when it ended (4 .. BAD.")
    static void promise7_badWhat() {
        WhileSaltMelts x = new WhileSaltMelts();
        due("what -1", x.saying(1, -1), BAD);
        due("what 0", x.saying(1, 0), 1);
        due("what 4", x.saying(1, 4), NONE);
        due("what 5", x.saying(1, 5), BAD);
        due("what most", x.saying(1, MOST), BAD);
        due("what least", x.saying(1, LEAST), BAD);
    }

    @Words("BAD .. NONE .. Of several the first in this order")
    static void promise7_badAheadOfNone() {
        WhileSaltMelts x = new WhileSaltMelts();
        due("answers none", x.saying(0, 3), NONE);
        due("not said", x.saying(0, 4), NONE);
        due("no saying, what 3", x.saying(2, 3), BAD);
        due("no saying, what 4", x.saying(2, 4), BAD);
        due("what 5 of one not said", x.saying(0, 5), BAD);
    }

    // ---- promise 8, melts

    @Words("A GRAIN MELTS for its PERSON in its size times how dry he is, seconds.")
    static void promise8_sizeTimesHowDry() {
        WhileSaltMelts x = laid("p1;p9;g1;g9;");
        due("1 by 1", x.melts(0, 0), 1);
        due("9 by 1", x.melts(0, 1), 9);
        due("1 by 9", x.melts(1, 0), 9);
        due("9 by 9", x.melts(1, 1), 81);
    }

    @Words("In how many seconds a GRAIN MELTS for a PERSON now.")
    static void promise8_now() {
        WhileSaltMelts x = laid("p8;p2;g9;d0,9;d1,0;");
        due("8 dry", x.melts(0, 0), 72);
        x.eat(0);
        due("9 dry", x.melts(0, 0), 81);
        due("2 dry", x.melts(1, 0), 18);
        x.eat(1);
        due("1 dry", x.melts(1, 0), 9);
        x.take(0, 0);
        due("taken", x.melts(1, 0), 9);
        x.undo();
        x.undo();
        due("undone", x.melts(1, 0), 18);
    }

    @Words("BAD: a number is none that is told (PERSONS, GRAINS .. such as there are)")
    static void promise8_badNumbers() {
        WhileSaltMelts x = new WhileSaltMelts();
        due("person -1", x.melts(-1, 0), BAD);
        due("person 1 of 2", x.melts(1, 0), 20);
        due("person 2 of 2", x.melts(2, 0), BAD);
        due("grain -1", x.melts(0, -1), BAD);
        due("grain 1 of 2", x.melts(0, 1), 18);
        due("grain 2 of 2", x.melts(0, 2), BAD);
        due("both", x.melts(2, 2), BAD);
        WhileSaltMelts y = laid(times(5, "p1;") + times(8, "g1;"));
        due("person 4, grain 7", y.melts(4, 7), 1);
        due("person 5, grain 7", y.melts(5, 7), BAD);
        due("person 4, grain 8", y.melts(4, 8), BAD);
        due("most", x.melts(MOST, MOST), BAD);
        due("least", x.melts(LEAST, LEAST), BAD);
    }
}
