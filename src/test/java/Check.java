import java.lang.annotation.ElementType;
import java.lang.annotation.Retention;
import java.lang.annotation.RetentionPolicy;
import java.lang.annotation.Target;
import java.lang.reflect.InvocationTargetException;
import java.lang.reflect.Method;
import java.util.Arrays;
import java.util.Comparator;
import java.util.LinkedHashMap;
import java.util.Map;

/** What the tests of edges have in common: each test has the sentence of the document that it is for as its @Says. */
abstract class Check {
    static final int NONE = -1;
    static final int NOTHING = -1000;
    /** Far beside all numbers that can be. */
    static final int LEAST = Integer.MIN_VALUE;
    static final int MOST = Integer.MAX_VALUE;
    private static int wrong = 0;
    private static int asked = 0;
    private static String sentence = "";

    /** The words of the document that a test would show to be broken. */
    @Retention(RetentionPolicy.RUNTIME)
    @Target(ElementType.METHOD)
    @interface Says {
        String value();
    }

    /** A call whose answer is asked. */
    interface Call {
        long on(JoinRouter x);
    }

    /** Calls that make an object ready. */
    interface Ready {
        void make(JoinRouter x);
    }

    static void runAll(Class<?> tests) {
        Method[] all = tests.getDeclaredMethods();
        Arrays.sort(all, Comparator.comparing(Method::getName));
        int ran = 0;
        for (Method test : all) {
            Says says = test.getAnnotation(Says.class);
            if (says != null) {
                sentence = test.getName() + ", \"" + says.value() + "\"";
                runOne(test);
                ran++;
            }
        }
        System.out.println(tests.getName() + ": " + ran + " sentences, " + asked + " answers, " + wrong + " not as due");
        if (wrong != 0 || ran == 0) {
            System.exit(1);
        }
    }

    private static void runOne(Method test) {
        int before = asked;
        try {
            test.setAccessible(true);
            test.invoke(null);
        } catch (InvocationTargetException e) {
            tell("threw " + e.getCause() + " at " + e.getCause().getStackTrace()[0]);
        } catch (IllegalAccessException e) {
            tell("could not be run: " + e);
        }
        if (asked == before) {
            tell("asked nothing");
        }
    }

    private static void tell(String what) {
        wrong++;
        System.out.println(sentence + ": " + what);
    }

    /** The line of the test that asked. */
    private static int line() {
        for (StackTraceElement at : new Throwable().getStackTrace()) {
            if (at.getClassName().endsWith("Test")) {
                return at.getLineNumber();
            }
        }
        return 0;
    }

    static void due(long got, long want) {
        due("it", got, want);
    }

    static void due(String what, long got, long want) {
        asked++;
        if (got != want) {
            tell("line " + line() + ", " + what + " answered " + got + ", due is " + want);
        }
    }

    static void due(boolean isSo) {
        asked++;
        if (!isSo) {
            tell("line " + line() + " is not so");
        }
    }

    static void due(Map<String, Long> got, Map<String, Long> want) {
        due(got.size(), want.size());
        for (Map.Entry<String, Long> e : want.entrySet()) {
            due(e.getKey(), got.getOrDefault(e.getKey(), Long.MIN_VALUE), e.getValue());
        }
    }

    // ---- TEXTS

    /** Puts a TEXT on the TAPE in place of what it has. */
    static JoinRouter put(JoinRouter x, String text) {
        x.end(0);
        add(x, text);
        x.end(text.length());
        return x;
    }

    /** Puts bytes behind the TAPE, blanks behind them till there are twenty, forty, .. */
    static void add(JoinRouter x, String text) {
        for (int at = 0; at < text.length(); at += 20) {
            int[] five = new int[5];
            for (int i = 0; i < 20; i++) {
                int sign = at + i < text.length() ? text.charAt(at + i) & 255 : ' ';
                five[i / 4] = five[i / 4] << 8 | sign;
            }
            x.feed(five[0], five[1], five[2], five[3], five[4]);
        }
    }

    static int law(JoinRouter x, String text) {
        return put(x, text).law();
    }

    static int orders(JoinRouter x, String text) {
        return put(x, text).orders();
    }

    static int row(JoinRouter x, int... bytes) {
        StringBuilder b = new StringBuilder();
        for (int one : bytes) {
            b.append((char) one);
        }
        return put(x, b.toString()).row();
    }

    static String many(String s, int n) {
        return s.repeat(n);
    }

    /** FAULT of a LAW, and that it is told as one. */
    static int lawFault(String text) {
        JoinRouter x = new JoinRouter();
        int answer = law(x, text);
        due(answer, x.fault() == NONE ? 0 : -6);
        due(x.status(), Math.min(answer, 0));
        due(x.count(4), answer == 0 ? 1 : 0);
        due(x.count(6), 0);
        return x.fault();
    }

    /** FAULT of ORDERS, and that they are told as such. */
    static int ordersFault(String text) {
        JoinRouter x = new JoinRouter();
        int answer = orders(x, text);
        due(answer == -6, x.fault() != NONE);
        due(x.status(), Math.min(answer, 0));
        due(x.count(6), 0);
        return x.fault();
    }

    static void due(boolean got, boolean want) {
        due(got == want);
    }

    /** What a JOIN of 0 with 1, number 0, COSTS by a LAW for a TUPLE 0, 3, 4 of STAMP 3 that looks at two; it has two TICKETS. */
    static int costBy(String law) {
        JoinRouter x = new JoinRouter();
        x.join(0, 0, 1, 0);
        x.come(1, 8, 8);
        x.come(1, 9, 9);
        due(law(x, law), 0);
        return x.compare(0, 0, 3, 4);
    }

    /** Of a TEST: 1 it is so, 0 it is not so or BROKEN. */
    private static int holds(String test) {
        int cost = costBy("costs 50; costs 60 if " + test);
        due(cost == 50 || cost == 60);
        return cost == 60 ? 1 : 0;
    }

    static void so(String test) {
        due(holds(test), 1);
        due(holds("not (" + test + ")"), 0);
    }

    static void notSo(String test) {
        due(holds(test), 0);
        due(holds("not (" + test + ")"), 1);
    }

    static void broken(String test) {
        due(holds(test), 0);
        due(holds("not (" + test + ")"), 0);
    }

    // ---- objects

    /** TUPLES of one RELATION with these pairs of FIELDS. */
    static void comeAll(JoinRouter x, int relation, int... fields) {
        for (int i = 0; i + 1 < fields.length; i += 2) {
            x.come(relation, fields[i], fields[i + 1]);
        }
    }

    /** As many TUPLES by ORDERS, of which no call but orders() knows; OPERATORS must not give them up. */
    static void comeMany(JoinRouter x, int relation, int a, int b, int n) {
        String one = "come " + relation + " with " + a + " and " + b + " times ";
        for (int left = n; left > 0; ) {
            StringBuilder text = new StringBuilder();
            int now = 0;
            for (int c = 0; c < 12 && now < left; c++) {
                int times = Math.min(20, left - now);
                text.append(c == 0 ? "" : ";").append(one).append(times);
                now += times;
            }
            due(orders(x, text.toString()), now);
            left -= now;
        }
    }

    /** Of all that can be asked what it answers, what was REFUSED and status() aside: some 150 calls. */
    static Map<String, Long> photo(JoinRouter x) {
        Map<String, Long> all = new LinkedHashMap<>();
        for (int what = 0; what <= 17; what++) {
            if (what < 7 || what > 11) {
                all.put("count(" + what + ")", (long) x.count(what));
            }
        }
        photoOfStates(x, all);
        all.put("strays()", (long) x.strays());
        all.put("fault()", (long) x.fault());
        all.put("stopped()", (long) x.stopped());
        all.put("deepest()", (long) x.deepest());
        for (int i = 0; i < 3; i++) {
            for (int r = 0; r < 3; r++) {
                all.put("result(" + i + ", " + r + ")", (long) x.result(i, r));
            }
        }
        for (int i = 0; i < 4; i++) {
            all.put("shut(" + i + ")", (long) x.shut(i));
            all.put("drawn(" + i + ", 0)", (long) x.drawn(i, 0));
            all.put("drawn(" + i + ", 1)", (long) x.drawn(i, 1));
        }
        for (int i = NONE; i < 3; i++) {
            all.put("canBe(" + i + ")", (long) x.canBe(i));
        }
        for (int law = NONE; law < 6; law++) {
            all.put("compare(" + law + ", 0, 2, 3)", (long) x.compare(law, 0, 2, 3));
        }
        all.put("brings(0, 2, 3, 1)", (long) x.brings(0, 2, 3, 1));
        // Last of a TUPLE whose way is another one, so that no later call can take it for its own.
        all.put("brings(1, 9, 9, 0)", (long) x.brings(1, 9, 9, 0));
        all.put("few(3, 9)", x.few(3, 9));
        return all;
    }

    private static void photoOfStates(JoinRouter x, Map<String, Long> all) {
        for (int o = 0; o < x.count(0); o++) {
            for (int what = 0; what < 6; what++) {
                all.put("operator(" + o + ", " + what + ")", (long) x.operator(o, what));
            }
        }
        for (int r = 0; r < 3; r++) {
            for (int what = 0; what < 3; what++) {
                all.put("relation(" + r + ", " + what + ")", (long) x.relation(r, what));
            }
            for (int i = 0; i < x.relation(r, 2); i++) {
                for (int what = 0; what < 3; what++) {
                    all.put("tuple(" + r + ", " + i + ", " + what + ")", (long) x.tuple(r, i, what));
                }
            }
        }
    }
}
