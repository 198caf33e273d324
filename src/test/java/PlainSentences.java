import java.lang.reflect.Constructor;
import java.lang.reflect.Field;
import java.lang.reflect.Method;
import java.lang.reflect.Modifier;
import java.util.ArrayList;
import java.util.List;
import java.util.Set;
import java.util.TreeSet;

/** Tests for the sentences of the document that name no boundary case. */
public final class PlainSentences extends Boundary {
    public static void main(String[] arguments) {
        run(PlainSentences.class, arguments);
    }

    // ---- promise 1, a new object

    @Words("As told; THE TEXT is empty.")
    static void promise1_objectsHaveNothingInCommon() {
        WhileSaltMelts x = new WhileSaltMelts();
        WhileSaltMelts y = new WhileSaltMelts();
        List<Integer> asTold = state(y);
        tell(x, SMALL);
        x.lay();
        x.eat(0);
        x.take(0, 0);
        x.say(0);
        x.keep();
        due("another object is as told", state(y).equals(asTold) ? 1 : 0, 1);
        due("a new one too", state(new WhileSaltMelts()).equals(asTold) ? 1 : 0, 1);
        due("undo of another", y.undo(), NO);
        due("back of another", y.back(), NO);
    }

    @Words("public final class WhileSaltMelts {")
    static void promise1_thePublicFace() {
        Class<?> face = WhileSaltMelts.class;
        due("modifiers of the class", face.getModifiers(), Modifier.PUBLIC | Modifier.FINAL);
        Set<String> told = new TreeSet<>(List.of("write(int,long)", "wipe()", "fault()", "lay()", "person(int,int)", "saying(int,int)",
            "melts(int,int)", "take(int,int)", "say(int)", "pass(int)", "eat(int)", "undo()", "best(int,int,int)", "match(int)",
            "soonest(int)", "late()", "dish(int,int)", "spoke(int,int,int)", "winter(int,int,int)", "keep()", "back()", "count(int)",
            "BAD", "NO", "FULL", "NONE", "WhileSaltMelts()"));
        Set<String> shown = new TreeSet<>();
        for (Method method : face.getDeclaredMethods()) {
            if (!Modifier.isPrivate(method.getModifiers()) && !method.isSynthetic()) {
                shown.add(method.getName() + types(method.getParameterTypes()));
                due("modifiers of " + method, method.getModifiers(), Modifier.PUBLIC);
                due("int " + method, method.getReturnType() == int.class ? 1 : 0, 1);
            }
        }
        for (Field field : face.getDeclaredFields()) {
            if (!Modifier.isPrivate(field.getModifiers())) {
                shown.add(field.getName());
                due("modifiers of " + field, field.getModifiers(), Modifier.PUBLIC | Modifier.STATIC | Modifier.FINAL);
                due("int " + field, field.getType() == int.class ? 1 : 0, 1);
            }
        }
        for (Constructor<?> constructor : face.getDeclaredConstructors()) {
            shown.add(face.getName() + types(constructor.getParameterTypes()));
            due("modifiers of " + constructor, constructor.getModifiers(), Modifier.PUBLIC);
        }
        due("told, but not shown: " + without(told, shown), without(told, shown).size(), 0);
        due("shown, but not told: " + without(shown, told), without(shown, told).size(), 0);
    }

    private static String types(Class<?>[] types) {
        StringBuilder written = new StringBuilder();
        for (Class<?> type : types) {
            written.append(written.length() == 0 ? "" : ",").append(type.getName());
        }
        return "(" + written + ")";
    }

    private static Set<String> without(Set<String> these, Set<String> those) {
        Set<String> left = new TreeSet<>(these);
        left.removeAll(those);
        return left;
    }

    // ---- promise 4, fault

    @Words("ITEMS one behind the other, each a letter, numbers")
    static void promise4_itemsOneBehindTheOther() {
        // in any order, as long as each names what is told ahead of it
        String text = "a7;g4;p3;d0,6;w0,10,5,99;g6;p5;w1,20,7,0;d1,4;a15;p2;w2,1,1,1;w0,2,2,2;";
        faultAt(text, NONE);
        WhileSaltMelts x = laid(text);
        int[] told = {3, 2, 4, 2};
        for (int what = 0; what <= 3; what++) {
            due("count " + what, x.count(what), told[what]);
        }
        due("grain 1 of person 2", x.melts(2, 1), 12);
        due("what saying 2 answers", x.saying(2, 3), 1);
        due("what saying 3 answers", x.saying(3, 3), 2);
        due("dish 1", x.eat(1), 4);
        // nothing stands between them
        for (String between : new String[] {" ", "\n", "\r\n", "\t", ",", ";", "\0"}) {
            faultAt("p3;" + between + "g4;", 3);
        }
    }

    @Words("told in a text with the first fault")
    static void promise4_faultIsOfTheText() {
        // of the text as it is now, whatever is laid
        WhileSaltMelts x = laid(SMALL);
        add(x, "x");
        due("fault", x.fault(), SMALL.length());
        due("again", x.fault(), SMALL.length());
        due("persons", x.count(0), 2);
        due("seconds that a grain melts", x.melts(1, 1), 30);
        due("write goes on behind it", x.write(1, 'x'), SMALL.length() + 2);
    }

    // ---- promise 10, say

    @Words("A SAYING is SAID by whom the GRAIN is: the second then.")
    static void promise10_byWhomTheGrainIs() {
        WhileSaltMelts x = laid("p3;p5;p9;g4;g6;w0,10,5,99;w2,20,7,99;");
        x.take(0, 0);
        due("0", x.say(0), 10);
        passTo(x, 12);
        x.take(2, 1);
        due("1", x.say(1), 32);
        int[] shares = {10, 0, 20};
        for (int i = 0; i <= 2; i++) {
            due("share of " + i, x.person(i, 1), shares[i]);
        }
    }

    @Words("it MELTS from this second on, and when it has he has to LISTEN for as many seconds again")
    static void promise10_severalByOneGrain() {
        // between what he says by one grain, seconds may go by, and an answer may come from another's grain alone
        WhileSaltMelts x = laid("p2;p2;g9;g9;w0,3,1,99;w0,4,1,99;w1,2,1,1;w0,1,1,2;");
        due("take", x.take(0, 0), 18);
        x.pass(2);
        due("0", x.say(0), 5);
        x.pass(3);
        due("1", x.say(1), 12);
        due("an answer to none said", x.say(3), NO);
        passTo(x, 18);
        due("another's", x.take(1, 1), 36);
        due("2", x.say(2), 20);
        due("said by whom the grain is not", x.say(3), NO);
    }

    // ---- promise 11, pass

    @Words("Seconds can go by.")
    static void promise11_secondsCanGoBy() {
        WhileSaltMelts x = laid(SMALL);
        due("with nothing done", x.pass(5), 5);
        x.take(0, 0);
        due("while a grain melts", x.pass(7), 12);
        due("beyond its end", x.pass(9), 21);
        due("while he listens", x.pass(1), 22);
        due("beyond that", x.pass(30), 52);
        due("the second", x.count(4), 52);
        due("how dry he is", x.person(0, 0), 3);
        due("his share", x.person(0, 1), 0);
        due("the shaker", x.count(5), 6);
    }

    // ---- promise 12, eat

    @Words("A DISH is eaten: how dry its PERSON is.")
    static void promise12_howDryItsPersonIs() {
        WhileSaltMelts x = laid("p3;p5;p7;g1;d1,6;d2,3;d0,8;d1,9;");
        int[] dry = {6, 5, 6, 9};
        int[] eater = {1, 2, 0, 1};
        for (int d = 0; d <= 3; d++) {
            due("dish " + d, x.eat(d), dry[d]);
            due("its person", x.person(eater[d], 0), dry[d]);
        }
        int[] then = {6, 9, 5};
        for (int i = 0; i <= 2; i++) {
            due("person " + i, x.person(i, 0), then[i]);
        }
        due("no second went by", x.count(4), 0);
    }

    // ---- promise 13, undo

    @Words("grains taken, sayings said, seconds gone by, undone")
    static void promise13_oneBehindTheOther() {
        // each undo leads to what stood ahead of the call that it takes back
        WhileSaltMelts x = laid(SMALL);
        List<List<Integer>> stood = new ArrayList<>();
        Runnable[] calls = {() -> x.eat(0), () -> x.take(0, 1), () -> x.say(0), () -> x.say(2), () -> x.pass(12), () -> x.take(1, 1),
            () -> x.take(1, 2), () -> x.pass(30), () -> x.eat(1)};
        for (Runnable call : calls) {
            stood.add(state(x));
            call.run();
        }
        // one of them, the take of the grain that is taken, is refused
        due("undoable", x.count(8), 8);
        stood.remove(5);
        for (int left = 7; left >= 0; left--) {
            due("undo", x.undo(), left);
            due("as it stood ahead of call " + left, state(x).equals(stood.get(left)) ? 1 : 0, 1);
        }
    }

    // ---- promises 14 to 20, what asks and changes nothing

    @Words("Nothing is promised beyond the answers and state changes described above")
    static void promise14_askingChangesNothing() {
        WhileSaltMelts x = laid(SMALL);
        x.eat(1);
        x.take(0, 1);
        x.say(2);
        x.keep();
        x.pass(1);
        add(x, "p1;x");
        List<Integer> was = state(x);
        for (int times = 0; times < 2; times++) {
            due("fault", x.fault(), SMALL.length() + 3);
            due("best", x.best(0, 0, 0), 1);
            due("match", x.match(-1), 5);
            due("soonest", x.soonest(-1), 10);
            due("late", x.late(), 0);
            due("dish", x.dish(0, 1), NONE);
            due("spoke", x.spoke(0, 12, 0), 1);
            due("winter", x.winter(0, 1, 1), 20);
            due("as it was", state(x).equals(was) ? 1 : 0, 1);
        }
        due("undo", x.undo(), 3);
        due("back", x.back(), 0);
        due("the grain melts on", x.say(0), 12);
    }

    @Words("that of most worth, of several the lowest: it; its worth")
    static void promise14_itAndItsWorth() {
        WhileSaltMelts x = laid("p2;p3;g6;g9;w0,7,20,99;w1,9,11,99;w0,5,30,99;w1,10,12,99;");
        int[][] sets = {{5, 5}, {8, 10}};
        int[][] worths = {{50, 50}, {12, 23}};
        for (int i = 0; i <= 1; i++) {
            for (int g = 0; g <= 1; g++) {
                due("set of " + i + " by " + g, x.best(i, g, 0), sets[i][g]);
                due("its worth", x.best(i, g, 1), worths[i][g]);
            }
        }
    }

    @Words("that worth; the GRAIN of a SAYING; none")
    static void promise15_thatWorthTheGrainNone() {
        // 0 fits grain 1 alone, 1 fits both, 2 fits none
        WhileSaltMelts x = laid("p2;p3;g3;g4;w0,8,6,99;w1,9,5,0;w1,13,99,99;");
        due("worth", x.match(-1), 11);
        due("grain of 0", x.match(0), 1);
        due("grain of 1", x.match(1), 0);
        due("grain of 2", x.match(2), NONE);
    }

    @Words("how many seconds behind the first's beginning (0: none gets one); the i-th.")
    static void promise16_theIth() {
        // 1 melts shorter than 0 and is said first, so that he has to listen for less
        WhileSaltMelts x = laid("p2;p2;g4;g2;g5;w0,8,6,99;w0,4,5,99;w1,10,9,1;");
        int[] order = {1, 2, 0};
        due("seconds", x.soonest(-1), 22);
        for (int k = 0; k <= 2; k++) {
            due("the one at " + k, x.soonest(k), order[k]);
        }
        due("none at 3", x.soonest(3), NONE);
    }

    @Words("what is said is worth in all")
    static void promise20_worthInAll() {
        // DRAW is 1, then 41487: person 1 by grain 0, then person 1 by grain 5185 modulo 2
        WhileSaltMelts x = new WhileSaltMelts();
        due("one evening", x.winter(0, 1, -1), 7);
        due("two evenings", x.winter(0, 2, -1), 14);
        due("two evenings, seconds", x.winter(0, 2, 1), 40);
        x = laid("p3;p5;g4;g1;w1,5,3,99;w1,10,8,99;w1,11,9,99;");
        due("20 seconds", x.winter(0, 1, -1), 12);
        due("20 and 5 seconds", x.winter(0, 2, -1), 15);
        due("20 and 5 seconds", x.winter(0, 2, 1), 21);
    }

    // ---- promise 21, keep

    @Words("KEPT: how many.")
    static void promise21_howMany() {
        WhileSaltMelts x = laid(SMALL);
        due("one", x.keep(), 1);
        x.pass(1);
        due("two", x.keep(), 2);
        due("second", x.count(4), 1);
        due("one is left", x.back(), 1);
        due("two again", x.keep(), 2);
    }
}
