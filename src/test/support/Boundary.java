import java.lang.annotation.Retention;
import java.lang.annotation.RetentionPolicy;
import java.lang.reflect.InvocationTargetException;
import java.lang.reflect.Method;
import java.nio.charset.StandardCharsets;
import java.util.ArrayList;
import java.util.Arrays;
import java.util.Comparator;
import java.util.List;
import java.util.function.Consumer;
import java.util.function.ToIntFunction;

/**
 * What the tests of boundaries share. A test is a static method promiseN_.. that bears the words of the document
 * which name its boundary; run() finds them by that, so that none is left out.
 */
abstract class Boundary {
    static final int BAD = WhileSaltMelts.BAD, NO = WhileSaltMelts.NO, FULL = WhileSaltMelts.FULL, NONE = WhileSaltMelts.NONE;
    static final int MOST = Integer.MAX_VALUE, LEAST = Integer.MIN_VALUE;
    /** Small, so that its whole state can be asked for again and again within 512 calls. */
    static final String SMALL = "p3;p5;g4;g6;g1;w0,10,5,99;w1,20,7,0;w0,2,1,99;d0,6;d1,4;";

    private static int wrong;
    private static String test;

    /** The words of the document that name the boundary. */
    @Retention(RetentionPolicy.RUNTIME)
    @interface Words {
        String value();
    }

    static void due(String what, long got, long want) {
        if (got != want) {
            wrong++;
            System.out.println(test + ": " + what + " answered " + got + ", due is " + want);
        }
    }

    /** Puts the text in the place of what was written. */
    static void tell(WhileSaltMelts x, String text) {
        x.wipe();
        add(x, text);
    }

    static void add(WhileSaltMelts x, String text) {
        byte[] bytes = text.getBytes(StandardCharsets.ISO_8859_1);
        for (int from = 0; from < bytes.length; from += 8) {
            int n = Math.min(8, bytes.length - from);
            long v = 0;
            for (int k = 0; k < n; k++) {
                v = v << 8 | (bytes[from + k] & 255);
            }
            x.write(n, v);
        }
    }

    static WhileSaltMelts told(String text) {
        WhileSaltMelts x = new WhileSaltMelts();
        tell(x, text);
        due("length of " + text, x.count(10), text.length());
        return x;
    }

    static WhileSaltMelts laid(String text) {
        WhileSaltMelts x = told(text);
        if (x.lay() < 1) {
            due("lay of " + text, NO, 1);
        }
        return x;
    }

    static void faultAt(String text, int place) {
        due("fault of " + text, told(text).fault(), place);
    }

    static String times(int n, String item) {
        return item.repeat(n);
    }

    /** Lets seconds go by until it is second to. */
    static void passTo(WhileSaltMelts x, int to) {
        for (int at = x.count(4); at < to; at = x.count(4)) {
            x.pass(Math.min(600, to - at));
        }
        due("second", x.count(4), to);
    }

    /** All answers that tell how the object stands. */
    static List<Integer> state(WhileSaltMelts x) {
        List<Integer> state = new ArrayList<>();
        for (int what = 0; what <= 10; what++) {
            state.add(x.count(what));
        }
        for (int i = 0; i < x.count(0); i++) {
            for (int what = 0; what <= 2; what++) {
                state.add(x.person(i, what));
            }
        }
        for (int g = 0; g < x.count(1); g++) {
            state.add(x.melts(0, g));
        }
        for (int s = 0; s < x.count(2); s++) {
            for (int what = 0; what <= 4; what++) {
                state.add(x.saying(s, what));
            }
        }
        return state;
    }

    /** The call is refused so, and all that is known of the object then, undone and kept ones too, is as if it had not been. */
    static void refused(String what, Consumer<WhileSaltMelts> ahead, ToIntFunction<WhileSaltMelts> call, int want) {
        WhileSaltMelts x = laid(SMALL);
        WhileSaltMelts y = laid(SMALL);
        ahead.accept(x);
        ahead.accept(y);
        due(what, call.applyAsInt(x), want);
        same(what, x, y);
        while (y.undo() >= 0) {
            x.undo();
            same(what + ", undone", x, y);
        }
        due(what + ", no more to be undone", x.undo(), NO);
        while (y.back() >= 0) {
            x.back();
            same(what + ", back", x, y);
        }
        due(what + ", none kept", x.back(), NO);
        due(what + ", fault", x.fault(), y.fault());
    }

    private static void same(String what, WhileSaltMelts x, WhileSaltMelts y) {
        List<Integer> is = state(x);
        List<Integer> was = state(y);
        if (!is.equals(was)) {
            wrong++;
            System.out.println(test + ": " + what + " changed " + was + " to " + is);
        }
    }

    static void run(Class<?> tests, String[] arguments) {
        List<Method> found = new ArrayList<>();
        for (Method method : tests.getDeclaredMethods()) {
            if (method.getName().startsWith("promise")) {
                found.add(method);
            }
        }
        found.sort(Comparator.comparingInt(Boundary::promise).thenComparing(Method::getName));
        if (Arrays.asList(arguments).contains("list")) {
            for (Method method : found) {
                System.out.println(method.getName() + "\t" + method.getAnnotation(Words.class).value());
            }
            return;
        }
        for (Method method : found) {
            runOne(method);
        }
        System.out.println(found.size() + " tests: " + (wrong == 0 ? "all answers are as due" : wrong + " answers are not as due"));
        if (wrong != 0 || found.isEmpty()) {
            System.exit(1);
        }
    }

    private static int promise(Method method) {
        return Integer.parseInt(method.getName().replaceAll("promise([0-9]+)_.*", "$1"));
    }

    private static void runOne(Method method) {
        test = method.getName();
        if (method.getAnnotation(Words.class) == null) {
            wrong++;
            System.out.println(test + " names no words of the document");
        }
        try {
            method.invoke(null);
        } catch (InvocationTargetException | IllegalAccessException e) {
            wrong++;
            System.out.println(test + ": " + (e.getCause() == null ? e : e.getCause()));
        }
    }
}
