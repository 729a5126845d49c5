/** For each promise of the document: ordinary inputs, the edges that it names, and wrong inputs. */
public final class PromisesTest {
    private static final int NONE = -1;
    private static final int NOTHING = -1000;
    private static int wrong = 0;
    private static int promise = 0;

    public static void main(String[] args) {
        newObject();
        join();
        filter();
        operator();
        relation();
        tuple();
        terms();
        feed();
        end();
        row();
        strays();
        law();
        lawLimits();
        lawMeaning();
        sumsAndTests();
        orders();
        orderWords();
        ordersGoBack();
        fault();
        stopped();
        force();
        come();
        comeByTickets();
        comeGivenUp();
        comeLast();
        strike();
        window();
        index();
        undo();
        result();
        shut();
        deepest();
        brings();
        cheapest();
        regret();
        bestIndex();
        seen();
        forget();
        canBe();
        ask();
        few();
        compare();
        days();
        drawn();
        image();
        back();
        count();
        status();
        System.out.println(wrong == 0 ? "all promises held" : wrong + " answers are not as due");
        if (wrong != 0) {
            System.exit(1);
        }
    }

    // ---- helpers

    private static void due(long got, long want) {
        if (got != want) {
            wrong++;
            StackTraceElement at = new Throwable().getStackTrace()[1];
            System.out.println("promise " + promise + ", line " + at.getLineNumber() + ": answered " + got + ", due is " + want);
        }
    }

    /** Puts a TEXT on an empty TAPE. */
    private static JoinRouter put(JoinRouter x, String text) {
        byte[] bytes = new byte[(text.length() + 19) / 20 * 20];
        for (int i = 0; i < text.length(); i++) {
            bytes[i] = (byte) text.charAt(i);
        }
        for (int at = 0; at < bytes.length; at += 20) {
            int[] five = new int[5];
            for (int i = 0; i < 20; i++) {
                five[i / 4] = five[i / 4] << 8 | bytes[at + i] & 255;
            }
            x.feed(five[0], five[1], five[2], five[3], five[4]);
        }
        due(x.end(text.length()), text.length());
        return x;
    }

    private static int lawFault(String text) {
        JoinRouter x = new JoinRouter();
        int answer = put(x, text).law();
        due(answer, x.fault() == NONE ? 0 : -6);
        due(x.count(6), 0);
        return x.fault();
    }

    private static int ordersFault(String text) {
        JoinRouter x = new JoinRouter();
        int answer = put(x, text).orders();
        due(x.fault() == NONE ? 0 : -6, answer == -3 ? 0 : Math.min(answer, 0));
        return x.fault();
    }

    /** What a JOIN of 0 with 1 COSTS by a LAW for a TUPLE 0, 3, 4 that looks at two. */
    private static int costBy(String law) {
        JoinRouter x = new JoinRouter();
        x.join(0, 0, 1, 0);
        x.come(1, 8, 8);
        x.come(1, 9, 9);
        due(put(x, law).law(), 0);
        return x.compare(0, 0, 3, 4);
    }

    private static boolean isSo(String test) {
        int cost = costBy("costs 50; costs 60 if " + test);
        due(cost == 50 || cost == 60 ? 1 : 0, 1);
        return cost == 60;
    }

    private static void so(String test) {
        due(isSo(test) ? 1 : 0, 1);
    }

    private static void notSo(String test) {
        due(isSo(test) ? 1 : 0, 0);
    }

    private static String times(String s, int n) {
        return s.repeat(n);
    }

    // ---- promise by promise

    private static void newObject() {
        promise = 1;
        JoinRouter x = new JoinRouter();
        int[] counts = {0, 0, 0, 0, 0, 0, 0, 0, 0, 0, 0, 0, NONE, 999, 1, 0, 0, 0};
        for (int what = 0; what < counts.length; what++) {
            due(x.count(what), counts[what]);
        }
        for (int r = 0; r < 3; r++) {
            due(x.relation(r, 0), 4);
            due(x.relation(r, 1), 2);
            due(x.relation(r, 2), 0);
            due(x.tuple(r, 0, 2), NONE);
        }
        due(x.operator(0, 0), NOTHING);
        due(JoinRouter.NONE, -1);
        due(JoinRouter.NOTHING, -1000);
    }

    private static void join() {
        promise = 2;
        JoinRouter x = new JoinRouter();
        int[][] bad = {{-1, 0, 1, 0}, {3, 0, 1, 0}, {0, -1, 1, 0}, {0, 2, 1, 0}, {0, 0, -1, 0}, {0, 0, 3, 0}, {0, 0, 1, -1}, {0, 0, 1, 2},
            {0, 0, 0, 0}, {2, 0, 2, 1}};
        for (int[] b : bad) {
            due(x.join(b[0], b[1], b[2], b[3]), -1);
            due(x.status(), -1);
        }
        due(x.count(7), bad.length);
        due(x.join(0, 0, 1, 1), 0);
        due(x.join(0, 0, 1, 1), 1);
        due(x.join(2, 1, 0, 0), 2);
        due(x.join(1, 0, 2, 0), 3);
        due(x.status(), 0);
        due(x.join(1, 0, 2, 0), -5);
        due(x.join(1, 0, 1, 0), -1);
        due(x.count(0), 4);
        due(x.count(5), 4);
        due(x.count(10), 1);
    }

    private static void filter() {
        promise = 3;
        JoinRouter x = new JoinRouter();
        int[][] bad = {{-1, 0, 0, 0}, {3, 0, 0, 0}, {0, -1, 0, 0}, {0, 2, 0, 0}, {0, 0, -1, 0}, {0, 0, 3, 0}, {0, 0, 0, -1}, {0, 0, 0, 10}};
        for (int[] b : bad) {
            due(x.filter(b[0], b[1], b[2], b[3]), -1);
        }
        for (int kind = 0; kind < 3; kind++) {
            JoinRouter y = new JoinRouter();
            due(y.filter(0, 1, kind, 5), 0);
            due(y.come(0, 9, 4), kind == 0 ? 1 : 0);
            due(y.come(0, 9, 5), kind == 1 ? 1 : 0);
            due(y.come(0, 0, 6), kind == 2 ? 1 : 0);
        }
        for (int i = 0; i < 4; i++) {
            due(x.filter(2, 0, 0, 9), i);
        }
        due(x.filter(2, 0, 0, 9), -5);
        due(x.filter(2, 0, 0, 10), -1);
        due(x.count(5), 4);
    }

    private static void operator() {
        promise = 4;
        JoinRouter x = new JoinRouter();
        x.join(2, 1, 0, 0);
        x.filter(1, 0, 2, 7);
        int[] j = {0, 2, 1, 0, 0, 0};
        int[] f = {1, 1, 0, 2, 7, 0};
        for (int what = 0; what < 6; what++) {
            due(x.operator(0, what), j[what]);
            due(x.operator(1, what), f[what]);
            due(x.operator(2, what), NOTHING);
            due(x.operator(-1, what), NOTHING);
        }
        due(x.operator(0, 6), NOTHING);
        due(x.operator(0, -1), NOTHING);
        x.come(1, 0, 0);
        due(x.operator(1, 5), 1);
        x.come(0, 5, 0);
        x.come(0, 5, 0);
        // Three PARTIALS taken, nothing brought, then one taken and two brought.
        due(x.operator(0, 5), 2);
        x.come(2, 0, 5);
        due(x.operator(0, 5), 1);
        due(x.operator(1, 5), 1);
    }

    private static void relation() {
        promise = 5;
        JoinRouter x = new JoinRouter();
        x.window(1, 9);
        x.index(1, 0);
        x.come(1, 0, 0);
        x.come(1, 0, 0);
        due(x.relation(1, 0), 9);
        due(x.relation(1, 1), 0);
        due(x.relation(1, 2), 2);
        due(x.relation(0, 2), 0);
        due(x.relation(1, 3), NONE);
        due(x.relation(1, -1), NONE);
        due(x.relation(3, 0), NONE);
        due(x.relation(-1, 0), NONE);
    }

    private static void tuple() {
        promise = 6;
        JoinRouter x = new JoinRouter();
        for (int i = 0; i < 6; i++) {
            x.come(2, i, 9 - i);
        }
        for (int i = 0; i < 4; i++) {
            due(x.tuple(2, i, 0), i + 2);
            due(x.tuple(2, i, 1), 7 - i);
            due(x.tuple(2, i, 2), i + 3);
        }
        due(x.tuple(2, 4, 0), NONE);
        due(x.tuple(2, -1, 0), NONE);
        due(x.tuple(2, 0, 3), NONE);
        due(x.tuple(2, 0, -1), NONE);
        due(x.tuple(3, 0, 0), NONE);
        due(x.tuple(-1, 0, 0), NONE);
        due(x.tuple(0, 0, 0), NONE);
    }

    private static void terms() {
        promise = 7;
        JoinRouter x = new JoinRouter();
        x.come(0, 0, 0);
        int[][] ranges = {{1, 999, 999}, {0, 10, 1}, {0, 9, 0}};
        for (int what = 0; what < 3; what++) {
            due(x.terms(what, ranges[what][0] - 1), -1);
            due(x.terms(what, ranges[what][1] + 1), -1);
            due(x.terms(what, ranges[what][0]), ranges[what][2]);
            due(x.count(13 + what), ranges[what][0]);
            due(x.terms(what, ranges[what][1]), ranges[what][0]);
            due(x.count(13 + what), ranges[what][1]);
        }
        due(x.terms(3, 1), -1);
        due(x.terms(-1, 1), -1);
        due(x.count(7), 8);
        due(x.count(5), 1);
        due(x.undo(), 0);
        due(x.count(15), 9);
    }

    private static void feed() {
        promise = 8;
        JoinRouter x = new JoinRouter();
        due(x.feed(0x00010203, 0x01040506, 0x02070809, 0x00ffff00, -1), 20);
        due(x.row(), 1);
        // 00 01 02, 03 01 04, ..: by threes, the highest byte of a number first.
        due(x.tuple(0, 0, 0), 1);
        due(x.tuple(0, 0, 1), 2);
        due(x.tuple(0, 0, 2), 1);
        due(x.strays(), 6);
        for (int i = 1; i <= 20; i++) {
            due(x.feed(0, 0, 0, 0, 0), i * 20);
        }
        due(x.feed(0, 0, 0, 0, 0), NONE);
        due(x.count(6), 400);
        due(x.count(7), 0);
        due(x.end(381), 381);
        due(x.feed(0, 0, 0, 0, 0), NONE);
        due(x.end(380), 380);
        due(x.feed(0, 0, 0, 0, 0), 400);
        due(x.status(), 0);
    }

    private static void end() {
        promise = 9;
        JoinRouter x = new JoinRouter();
        due(x.end(0), 0);
        due(x.end(1), NONE);
        due(x.end(-1), NONE);
        x.feed(1, 2, 3, 4, 5);
        due(x.end(21), NONE);
        due(x.end(20), 20);
        due(x.end(7), 7);
        due(x.count(6), 7);
        due(x.end(8), NONE);
        due(x.end(-1), NONE);
        due(x.count(6), 7);
        due(x.end(0), 0);
        due(x.row(), -6);
    }

    private static void row() {
        promise = 10;
        JoinRouter x = new JoinRouter();
        due(x.row(), -6);
        due(x.status(), -6);
        due(x.count(11), 1);
        x.join(0, 0, 1, 0);
        x.come(0, 5, 0);
        due(x.count(5), 2);
        due(x.row(), -6);
        due(x.count(5), 2);
        put(x, "\1\5\0" + "\0\5\7" + "\3\0\0" + "\1\12\0" + "\1\0\377" + "\2\11\11" + "\0\1");
        due(x.row(), 3);
        due(x.status(), 0);
        due(x.strays(), 4);
        due(x.count(6), 0);
        due(x.count(1), 4);
        // The second brings one, the third one too.
        due(x.count(2), 2);
        due(x.count(5), 0);
        due(x.undo(), -3);
        due(x.count(7), 0);
        // come() alone has a latest one.
        due(x.count(16), 0);
        due(x.count(17), 1);
        put(x, "\11").row();
        due(x.strays(), 1);
        x.come(0, 0, 0);
        put(x, "\11\1\1");
        due(x.row(), 0);
        due(x.undo(), -3);
        x.come(1, 4, 4);
        x.terms(0, 1);
        // The first looks at two, which is too much: given up, nothing of it stays.
        due(put(x, "\0\4\4\2\4\4").row(), 1);
        due(x.strays(), 1);
    }

    private static void strays() {
        promise = 11;
        JoinRouter x = new JoinRouter();
        due(x.strays(), 0);
        put(x, "\7\0\0\7").row();
        due(x.strays(), 2);
        x.row();
        due(x.strays(), 2);
        put(x, "bars").law();
        x.force(0);
        put(x, "\0\0\0\1\1\1").row();
        due(x.strays(), 2);
        x.force(NONE);
        put(x, "\0\0\0\1\1\1").row();
        due(x.strays(), 0);
    }

    private static void law() {
        promise = 12;
        JoinRouter x = new JoinRouter();
        x.come(0, 0, 0);
        for (int i = 0; i < 6; i++) {
            due(put(x, "costs " + i).law(), i);
            due(x.count(6), 0);
        }
        due(x.count(4), 6);
        due(x.fault(), NONE);
        due(put(x, "costs").law(), -5);
        due(x.fault(), NONE);
        due(x.count(6), 0);
        due(x.law(), -5);
        due(x.count(10), 2);
        due(x.status(), -5);
        due(x.count(5), 1);
        due(x.undo(), 0);
        due(x.count(4), 6);
        due(lawFault(""), 0);
        due(lawFault("    "), 4);
        due(lawFault("costs 1;bars if a=1;costs op+relation*a-b/size%tickets+marks+stamp+mood"), NONE);
        due(lawFault("  bars  "), NONE);
        due(lawFault("bars if not not not (a=1 or b<2 and not (op>3))"), NONE);
        due(lawFault("costs 1 if[1]=[[2]]"), NONE);
    }

    private static void lawLimits() {
        promise = 12;
        due(lawFault("bars" + times(";bars", 11)), NONE);
        due(lawFault("bars" + times(";bars", 12)), 60);
        due(lawFault("bars" + times(";bars", 11) + "; "), 61);
        due(lawFault("bars" + times(";bars", 11) + " ;  ?"), 63);
        due(lawFault("bars" + times("; bars", 12)), 4 + 11 * 6 + 2);
        String fifty = "costs a" + times("+1", 49);
        due(lawFault(fifty), NONE);
        due(lawFault(fifty + "+b"), fifty.length() + 1);
        due(lawFault(fifty + "+[[b]]"), fifty.length() + 3);
        due(lawFault(fifty + "; bars if 1=1"), fifty.length() + 10);
        due(lawFault("costs 0; " + fifty), 9 + fifty.length() - 1);
        due(lawFault("costs " + times("[", 8) + "a" + times("]", 8)), NONE);
        due(lawFault("costs " + times("[", 9) + "a" + times("]", 9)), 14);
        due(lawFault("bars if " + times("(", 8) + "a=1" + times(")", 8)), NONE);
        due(lawFault("bars if " + times("(", 9) + "a=1" + times(")", 9)), 16);
        due(lawFault("bars if " + times("(", 5) + times("[", 3) + "a" + times("]", 3) + "=[[[1]]]" + times(")", 5)), NONE);
        due(lawFault("bars if " + times("(", 5) + times("[", 4) + "a"), 16);
        due(lawFault("bars if (((((((a=1)))))))and((((((((a=1))))))))"), NONE);
        due(lawFault("bars if " + times("not ", 90) + "a=1"), NONE);
        due(lawFault("costs 1000"), NONE);
        due(lawFault("costs 1001"), 6);
        due(lawFault("costs 00000000000000000001000"), NONE);
        due(lawFault("costs 00000000000000000001001"), 6);
        due(lawFault("costs 4294967297"), 6);
        due(lawFault("costs 99999999999999999999999999999"), 6);
        // As many TOKENS as bytes.
        due(lawFault(times(";", 400)), 0);
        due(lawFault("costs " + times("[", 394)), 14);
        due(lawFault("costs 1" + times(" ", 393)), NONE);
        due(lawFault("costs 1+" + times(" ", 392)), 400);
        due(lawFault("bars if " + times("not ", 97) + "a=1" + " "), NONE);
    }

    private static void lawMeaning() {
        promise = 12;
        due(costBy("costs 7"), 7);
        due(costBy("bars if a=9"), 2);
        due(costBy("bars"), 2);
        due(costBy("costs 7; costs 8"), 8);
        due(costBy("costs 7; costs 8 if a=4"), 7);
        due(costBy("costs 7; costs 8/0"), 7);
        due(costBy("costs 7; costs 8 if 1/0=1"), 7);
        due(costBy("costs 8/0"), 2);
        due(costBy("costs 100"), 99);
        due(costBy("costs 99"), 99);
        due(costBy("costs 0-1"), 0);
        due(costBy("costs 1000*1000*1000"), 99);
        due(costBy("costs 1000*1000*1000+1"), 2);
        due(costBy("costs 0-1000*1000*1000"), 0);
        due(costBy("costs 0-1000*1000*1000-1"), 2);
        due(costBy("costs 1000*1000*1000*2/1000"), 2);
        due(costBy("costs 20+op"), 20);
        due(costBy("costs 20+relation"), 20);
        due(costBy("costs 20+a"), 23);
        due(costBy("costs 20+b"), 24);
        due(costBy("costs 20+size"), 22);
        due(costBy("costs 20+tickets"), 22);
        due(costBy("costs 20+marks"), 20);
        due(costBy("costs 20+stamp"), 23);
        due(costBy("costs 20+mood"), 20);
        JoinRouter x = new JoinRouter();
        x.filter(2, 0, 2, 0);
        x.join(2, 1, 1, 1);
        x.come(1, 6, 6);
        x.terms(2, 7);
        put(x, "costs op*10+relation+20*marks+mood").law();
        x.force(0);
        // The JOIN has a TICKET: 10 + 2 + 7, then the FILTER with one MARK: 0 + 2 + 20 + 7.
        due(x.brings(2, 5, 6, 1), 48);
        due(x.brings(2, 5, 6, 0), 1);
        put(x, "bars if [op+size+tickets+marks]*0-4=op+size+tickets+marks and relation=1 and a=2 and b=3 and stamp=2 and mood=7").law();
        x.force(1);
        due(x.come(1, 2, 4), 0);
        x.undo();
        due(x.come(1, 2, 3), -3);
        x.terms(2, 6);
        due(x.come(1, 2, 3), 0);
        // Any that HOLDS bars, the last or not.
        put(x, "bars if a=1; bars if 1/0=1; bars if a=2").law();
        x.force(2);
        due(x.come(0, 1, 0), -3);
        due(x.come(0, 2, 0), -3);
        due(x.come(0, 3, 0), 0);
    }

    private static void sumsAndTests() {
        promise = 12;
        due(costBy("costs 2+3*4"), 14);
        due(costBy("costs [2+3]*4"), 20);
        due(costBy("costs 20-3-4"), 13);
        due(costBy("costs 50/5/2"), 5);
        due(costBy("costs 50/7*2"), 14);
        due(costBy("costs 50%7"), 1);
        due(costBy("costs 10+[0-7]/2"), 7);
        due(costBy("costs 10+[0-7]%4"), 7);
        due(costBy("costs 10+7%[0-4]"), 13);
        due(costBy("costs 7%0"), 2);
        so("1=1 or 1=2 and 1=2");
        so("(1=2 or 1=1) and 2>1");
        notSo("(1=1 or 1=2) and 1=2");
        notSo("not 1=1 and 1=1");
        notSo("not (1=1 and 1=1)");
        so("not not 1<2");
        notSo("not not not 1<2");
        so("1=1 or 1/0=1");
        notSo("1/0=1 or 1=1");
        notSo("1=2 and 1/0=1");
        so("1=2 and 1/0=1 or 1=1");
        so("not (1=2 and 1/0=1)");
        notSo("not 1/0=1");
        notSo("1=1 and 1/0=1");
        notSo("1=2 or 1/0=1");
        so("1=2 or 1=1 or 1/0=1");
        notSo("3<3");
        notSo("3>3");
        so("3=3 and 2<3 and 3>2");
    }

    private static void orders() {
        promise = 13;
        JoinRouter x = new JoinRouter();
        due(x.orders(), -6);
        due(put(x, "   ").orders(), -6);
        due(x.fault(), 3);
        due(put(x, "come 0 with 5 and 6 times 3; window 0 to 2; index 1 to 0").orders(), 5);
        due(x.count(6), 0);
        due(x.status(), 0);
        due(x.relation(0, 2), 2);
        due(x.relation(0, 0), 2);
        due(x.tuple(0, 0, 2), 2);
        due(x.tuple(0, 1, 1), 6);
        due(x.relation(1, 1), 0);
        due(x.count(5), 5);
        x.join(0, 0, 1, 0);
        x.join(0, 1, 1, 1);
        due(put(x, "strike 0").orders(), 1);
        due(x.operator(0, 4), 1);
        due(put(x, "strike 0 if 1=2; come 0 with 1 and 1 times 20 if done<2; strike 1 if 1/0=1").orders(), 2);
        due(put(x, "strike 0 if 1=2").orders(), 0);
        due(ordersFault("come 1 with 2 and 3 times 20 if 1=1"), NONE);
        due(ordersFault("come 1 with 2 and 3 times 0"), 26);
        due(ordersFault("come 1 with 2 and 3 times 21"), 26);
        due(ordersFault("come 1 with 2 and 3 times a"), 26);
        due(ordersFault("come 1 with 2 and 3 if 1=1 times 2"), 27);
        due(ordersFault("come 1 with 2 and 3 times 0020"), NONE);
        due(ordersFault("window 0 to held 2"), NONE);
        due(ordersFault("window 0 to held 3"), 17);
        due(ordersFault("strike tickets 3"), NONE);
        due(ordersFault("strike tickets 4"), 15);
        due(ordersFault("strike tickets"), 14);
        due(ordersFault("strike op"), 7);
        due(ordersFault("index 1 with 2"), 8);
        due(ordersFault("costs 1"), 0);
        due(ordersFault("strike 0" + times(";strike 0", 11)), NONE);
        due(ordersFault("strike 0" + times(";strike 0", 12)), 8 + 11 * 9 + 1);
        // What stands behind "held", "tickets", "times" is no PART.
        String most = "strike held 0" + times("+tickets 1", 24) + times("+1", 25);
        due(ordersFault(most + " times 3"), NONE);
        due(ordersFault(most + "+held 0"), most.length() + 1);
    }

    private static void orderWords() {
        promise = 13;
        JoinRouter x = new JoinRouter();
        x.join(0, 0, 1, 0);
        x.come(0, 7, 7);
        x.come(0, 7, 8);
        x.come(1, 7, 1);
        // TICKETS: 1, 2, then one more and two less.
        due(put(x, "window 2 to 1 if stamp=3 and done=0 and latest=0-1 and results=2 and operators=1").orders(), 1);
        due(put(x, "window 2 to 2 if held 0=2 and held 1=1 and held 2=0 and tickets 0=1 and tickets 1=0-1000 and tickets 3=0-1000").orders(), 1);
        due(put(x, "come 1 with 7 and 2; window 2 to 3 if done=1 and latest=2 and stamp=4 and results=4; window 2 to 4 if latest=2 and done=2").orders(), 3);
        due(put(x, "come 0 with 0 and latest+1; come 0 with 0 and latest+1").orders(), 2);
        due(x.tuple(0, 2, 1), 0);
        due(x.tuple(0, 3, 1), 1);
        // The "if" is asked each time.
        due(put(x, "strike 0 times 2 if operators>0").orders(), 1);
        due(new JoinRouter().count(0), 0);
    }

    private static void ordersGoBack() {
        promise = 13;
        JoinRouter x = new JoinRouter();
        x.join(0, 0, 1, 0);
        for (int i = 0; i < 15; i++) {
            x.come(i % 3, 1, 1);
        }
        x.come(0, 1, 1);
        int results = x.count(2);
        int tickets = x.operator(0, 5);
        due(x.count(5), 16);
        due(put(x, "come 0 with 1 and 1 times 20; strike 0; window 0 to 9; index 1 to 0; come 3 with 0 and 0").orders(), -3);
        due(x.stopped(), 4);
        due(x.status(), -3);
        due(x.fault(), NONE);
        due(x.count(9), 1);
        due(x.count(7), 0);
        due(x.count(1), 16);
        due(x.count(2), results);
        due(x.count(0), 1);
        due(x.operator(0, 5), tickets);
        due(x.relation(0, 0), 4);
        due(x.relation(1, 1), 2);
        due(x.tuple(0, 3, 2), 16);
        due(x.count(5), 16);
        for (int i = 0; i < 16; i++) {
            due(x.undo(), 0);
        }
        due(x.undo(), -3);
        due(x.count(1), 0);
        String[] cannot = {"come 0 with 10 and 0", "come 0 with 0-1 and 0", "strike 1", "strike 0-1", "window 0 to 4", "window 0 to 10", "window 3 to 1",
            "index 0 to 2", "index 0 to 3", "index 3 to 0", "strike 1/0", "come 0 with 0 and 1%0", "strike 1000*1000*1000+1"};
        for (String c : cannot) {
            due(put(x, c).orders(), -3);
            due(x.stopped(), 0);
        }
        put(x, "bars if a=1; costs 50").law();
        x.force(0);
        due(put(x, "come 0 with 1 and 0").orders(), -3);
        x.come(1, 2, 2);
        x.terms(0, 10);
        due(put(x, "come 0 with 2 and 0").orders(), -3);
        due(x.count(10), 0);
    }

    private static void fault() {
        promise = 14;
        JoinRouter x = new JoinRouter();
        due(x.fault(), NONE);
        put(x, "costs *").law();
        due(x.fault(), 6);
        x.row();
        due(x.fault(), 6);
        put(x, "strike 0").orders();
        due(x.fault(), NONE);
        put(x, "strike 0 0").orders();
        due(x.fault(), 9);
        put(x, "bars").law();
        due(x.fault(), NONE);
        String[] law = {"cost 1", "costs 1 costs 2", "costs 1,2", "Costs 1", "costs a b", "costs 1+", "costs 1+;", "bars if", "bars if a", "bars if a<b<1",
            "bars if (a=1", "bars if a=1)", "bars if [a=1]", "costs (1)", "costs [1", "costs 1]", "bars if not", "bars if a=1 or", "bars if a=1 and or",
            ";bars", "bars;", "bars;;bars", "costs held 1", "costs done", "costs if", "bars times 2", "costs 1 if if a=1", "costs\t1", "costs 1\0", "costs ab",
            "costs a1", "costs 1a", "bars if a=1 not b=2", "costs -1", "bars if (a)=1", "costs 1 and 2"};
        int[] place = {0, 8, 7, 0, 8, 8, 8, 7, 9, 11, 12, 11, 10, 6, 8, 7, 11, 14, 16, 0, 5, 5, 6, 6, 6, 5, 11, 5, 7, 6, 7, 7, 12, 6, 10, 8};
        for (int i = 0; i < law.length; i++) {
            due(lawFault(law[i]), place[i]);
        }
        due(lawFault("costs 1\377"), 7);
        due(lawFault("costs 1  "), NONE);
        due(lawFault("costs 1 +  "), 11);
    }

    private static void stopped() {
        promise = 15;
        JoinRouter x = new JoinRouter();
        due(x.stopped(), NONE);
        put(x, "come 0 with 0 and 0; window 0 to 4").orders();
        due(x.stopped(), 1);
        put(x, "costs 1").law();
        due(x.stopped(), 1);
        put(x, "come 0 with 0 and 0").orders();
        due(x.stopped(), NONE);
        put(x, "window 0 to 5 times 2").orders();
        due(x.stopped(), 0);
        put(x, "window 0").orders();
        due(x.stopped(), NONE);
        x.come(0, 0, 0);
        put(x, "window 0 to 5; window 1 to 4; strike 9").orders();
        due(x.stopped(), 1);
    }

    private static void force() {
        promise = 16;
        JoinRouter x = new JoinRouter();
        due(x.force(NONE), NONE);
        due(x.status(), 0);
        due(x.force(0), -2);
        put(x, "costs 1").law();
        put(x, "costs 2").law();
        due(x.force(2), -2);
        due(x.force(-2), -2);
        x.come(0, 0, 0);
        due(x.force(1), NONE);
        due(x.status(), 0);
        due(x.count(12), 1);
        due(x.force(0), 1);
        due(x.force(NONE), 0);
        due(x.count(12), NONE);
        due(x.count(8), 3);
        due(x.count(7), 0);
        due(x.count(5), 1);
    }

    private static void come() {
        promise = 17;
        JoinRouter x = new JoinRouter();
        int[][] bad = {{-1, 0, 0}, {3, 0, 0}, {0, -1, 0}, {0, 10, 0}, {0, 0, -1}, {0, 0, 10}};
        for (int[] b : bad) {
            due(x.come(b[0], b[1], b[2]), -1);
        }
        due(x.come(0, 9, 0), 1);
        x.filter(1, 0, 0, 5);
        // No OPERATOR is OPEN to it: lost.
        due(x.come(0, 9, 0), 0);
        due(x.come(1, 4, 0), 1);
        due(x.come(1, 5, 0), 0);
        due(x.relation(1, 2), 2);
        due(x.count(1), 4);
        due(x.count(2), 2);
        put(x, "bars if a=3").law();
        x.force(0);
        due(x.come(1, 3, 0), -3);
        due(x.come(1, 3, 10), -1);
        due(x.count(1), 4);
        due(x.count(9), 1);
        // JOINS of which both TUPLES are there look at them alone.
        JoinRouter y = new JoinRouter();
        y.join(0, 0, 1, 0);
        y.join(1, 1, 0, 1);
        y.come(0, 1, 2);
        y.come(0, 1, 3);
        y.come(0, 2, 2);
        due(y.come(1, 1, 2), 1);
        due(y.result(0, 0), 1);
        due(y.result(0, 1), 4);
    }

    private static void comeByTickets() {
        promise = 17;
        JoinRouter x = new JoinRouter();
        x.filter(0, 0, 1, 1);
        x.filter(0, 1, 1, 1);
        // Alike: the lowest.
        x.come(0, 0, 0);
        due(x.operator(0, 5), 1);
        due(x.operator(1, 5), 0);
        x.come(0, 1, 0);
        due(x.operator(0, 5), 1);
        due(x.operator(1, 5), 1);
        x.come(0, 1, 0);
        due(x.operator(1, 5), 2);
        // Now that with most takes it first.
        x.come(0, 0, 0);
        due(x.operator(0, 5), 1);
        due(x.operator(1, 5), 3);
        due(x.come(0, 1, 1), 1);
        due(x.operator(1, 5), 3);
        // A JOIN that brings many falls below 0.
        JoinRouter y = new JoinRouter();
        y.join(0, 0, 1, 0);
        y.come(1, 1, 1);
        y.come(1, 1, 2);
        y.come(1, 2, 2);
        y.come(1, 1, 3);
        due(y.operator(0, 5), 4);
        due(y.come(0, 1, 0), 3);
        due(y.operator(0, 5), 2);
        due(y.come(0, 1, 0), 3);
        due(y.come(0, 1, 0), 3);
        due(y.operator(0, 5), -2);
    }

    private static void comeGivenUp() {
        promise = 17;
        JoinRouter x = new JoinRouter();
        x.join(0, 0, 1, 0);
        x.join(1, 1, 2, 1);
        x.come(1, 1, 1);
        x.come(1, 1, 1);
        x.come(2, 1, 1);
        x.come(2, 1, 1);
        x.undo();
        int tickets = x.operator(0, 5);
        int others = x.operator(1, 5);
        int undoable = x.count(5);
        int ever = x.count(2);
        due(x.brings(0, 1, 1, 1), 4);
        due(x.terms(0, 3), 999);
        due(x.come(0, 1, 1), -5);
        due(x.status(), -5);
        due(x.count(10), 1);
        due(x.count(17), 2);
        due(x.shut(0), 2);
        due(x.shut(1), 1);
        due(x.deepest(), 2);
        due(x.count(1), 3);
        due(x.count(2), ever);
        due(x.relation(0, 2), 0);
        due(x.operator(0, 5), tickets);
        due(x.operator(1, 5), others);
        due(x.count(5), undoable);
        due(x.terms(0, 4), 3);
        due(x.come(0, 1, 1), 2);
        x.undo();
        x.terms(0, 1);
        due(x.come(0, 1, 1), -5);
        due(x.count(17), 0);
        due(x.deepest(), 0);
    }

    private static void comeLast() {
        promise = 17;
        JoinRouter x = new JoinRouter();
        for (int i = 0; i < 4; i++) {
            due(put(x, "come 0 with 0 and 0 times 20" + times(";come 0 with 1 and 1 times 20", 11)).orders(), 240);
        }
        due(put(x, "come 0 with 0 and 0 times 20; come 0 with 0 and 0 times 20").orders(), -3);
        due(x.count(1), 960);
        due(put(x, "come 0 with 0 and 0 times 20; come 0 with 0 and 0 times 20 if stamp<998").orders(), 38);
        due(x.come(0, 0, 0), 1);
        due(x.count(1), 999);
        due(x.come(0, 0, 0), -3);
        due(x.come(0, 0, 10), -1);
        due(x.brings(0, 0, 0, 0), 1);
        put(x, "costs stamp-990").law();
        x.filter(0, 0, 1, 0);
        due(x.compare(0, 0, 0, 0), 10);
        due(put(x, "\0\0\0").row(), 0);
        due(x.days(1, 60), 0);
    }

    private static void strike() {
        promise = 18;
        JoinRouter x = new JoinRouter();
        due(x.strike(0), -2);
        x.filter(0, 0, 1, 0);
        x.filter(1, 0, 1, 0);
        x.filter(2, 0, 1, 0);
        x.come(2, 5, 5);
        x.come(2, 5, 5);
        x.come(0, 5, 5);
        due(x.strike(3), -2);
        due(x.strike(-1), -2);
        due(x.count(8), 3);
        due(x.strike(1), 2);
        due(x.operator(0, 5), 1);
        due(x.operator(1, 1), 2);
        due(x.operator(1, 5), 2);
        due(x.operator(2, 0), NOTHING);
        due(x.strike(1), 1);
        due(x.filter(1, 1, 0, 4), 1);
        due(x.operator(1, 5), 0);
        due(x.strike(0), 1);
        due(x.strike(0), 0);
    }

    private static void window() {
        promise = 19;
        JoinRouter x = new JoinRouter();
        int[][] bad = {{-1, 1}, {3, 1}, {0, 0}, {0, 10}};
        for (int[] b : bad) {
            due(x.window(b[0], b[1]), -1);
        }
        due(x.window(0, 4), -3);
        due(x.window(0, 9), 0);
        for (int i = 0; i < 10; i++) {
            x.come(0, i, i);
        }
        due(x.relation(0, 2), 9);
        due(x.tuple(0, 0, 2), 2);
        due(x.window(0, 3), 6);
        due(x.tuple(0, 0, 2), 8);
        due(x.relation(0, 2), 3);
        due(x.window(0, 3), -3);
        due(x.window(0, 1), 2);
        x.come(0, 1, 1);
        due(x.tuple(0, 0, 2), 11);
        due(x.relation(0, 2), 1);
        due(x.relation(1, 0), 4);
        due(x.status(), 0);
    }

    private static void index() {
        promise = 20;
        JoinRouter x = new JoinRouter();
        int[][] bad = {{-1, 1}, {3, 1}, {0, -1}, {0, 3}};
        for (int[] b : bad) {
            due(x.index(b[0], b[1]), -1);
        }
        due(x.index(1, 2), -3);
        x.join(0, 0, 1, 1);
        x.window(1, 9);
        int[] fields = {0, 1, 2, 3, 4, 5, 6, 7, 8};
        for (int f : fields) {
            x.come(1, 9, f);
        }
        due(x.brings(0, 1, 0, 1), 9);
        due(x.index(1, 0), 2);
        due(x.brings(0, 1, 0, 1), 9);
        due(x.index(1, 1), 0);
        // BUCKETS of 0 .. 9: 3 0 1 1 0 3 0 1 1 0.
        due(x.brings(0, 0, 0, 1), 2);
        due(x.brings(0, 1, 0, 1), 3);
        due(x.brings(0, 2, 0, 1), 4);
        due(x.brings(0, 9, 0, 1), 3);
        due(x.brings(0, 9, 0, 0), 0);
        due(x.brings(0, 7, 0, 0), 1);
        due(x.index(1, 1), -3);
        due(x.index(1, 2), 1);
        due(x.brings(0, 2, 0, 1), 9);
    }

    private static void undo() {
        promise = 21;
        JoinRouter x = new JoinRouter();
        due(x.undo(), -3);
        x.join(0, 0, 1, 0);
        x.filter(0, 1, 0, 5);
        x.come(1, 2, 2);
        x.come(0, 2, 2);
        x.strike(0);
        x.window(0, 2);
        x.index(0, 1);
        put(x, "come 0 with 3 and 3; index 0 to 0").orders();
        x.come(9, 9, 9);
        x.strike(7);
        due(x.count(5), 9);
        due(x.undo(), 4);
        due(x.relation(0, 1), 1);
        due(x.undo(), 0);
        due(x.count(1), 2);
        due(x.relation(0, 2), 1);
        due(x.undo(), 4);
        due(x.relation(0, 1), 2);
        due(x.undo(), 3);
        due(x.relation(0, 0), 4);
        due(x.undo(), 2);
        due(x.count(0), 2);
        due(x.operator(0, 0), 0);
        due(x.operator(0, 5), 1);
        due(x.count(2), 1);
        due(x.undo(), 0);
        due(x.count(2), 0);
        due(x.operator(0, 5), 1);
        due(x.undo(), 0);
        due(x.operator(0, 5), 0);
        due(x.undo(), 1);
        due(x.count(0), 1);
        due(x.undo(), 1);
        due(x.count(0), 0);
        due(x.undo(), -3);
        due(x.count(9), 2);
        // What the latest come() left stays.
        due(x.count(16), 1);
        due(x.result(0, 0), 2);
        for (int i = 0; i < 17; i++) {
            x.come(2, 0, 0);
        }
        for (int i = 0; i < 16; i++) {
            due(x.undo(), 0);
        }
        due(x.undo(), -3);
        due(x.count(1), 1);
    }

    private static void result() {
        promise = 22;
        JoinRouter x = new JoinRouter();
        due(x.result(0, 0), NONE);
        x.join(0, 0, 1, 0);
        x.join(0, 1, 2, 1);
        x.come(1, 5, 0);
        x.come(2, 0, 5);
        x.come(1, 5, 0);
        x.come(2, 0, 5);
        due(x.come(0, 5, 5), 4);
        int firstTaker = x.shut(0);
        // Op 0 and op 1 have two TICKETS each: op 0 takes it, opens 1, and 2 for each of it.
        due(firstTaker, 2);
        int[][] stamps = {{5, 1, 2}, {5, 1, 4}, {5, 3, 2}, {5, 3, 4}};
        for (int i = 0; i < 4; i++) {
            for (int r = 0; r < 3; r++) {
                due(x.result(i, r), stamps[i][r]);
            }
        }
        due(x.result(4, 0), NONE);
        due(x.result(-1, 0), NONE);
        due(x.result(0, 3), NONE);
        due(x.result(0, -1), NONE);
        x.come(9, 0, 0);
        x.brings(0, 1, 1, 0);
        put(x, "come 0 with 5 and 5").orders();
        put(x, "\0\5\5").row();
        x.terms(0, 1);
        due(x.come(0, 5, 5), -5);
        due(x.result(3, 2), 4);
        due(x.count(16), 4);
        x.terms(0, 999);
        due(x.come(0, 9, 9), 0);
        due(x.result(0, 0), NONE);
        JoinRouter y = new JoinRouter();
        y.come(1, 0, 0);
        due(y.result(0, 1), 1);
        due(y.result(0, 0), NONE);
        due(y.result(0, 2), NONE);
    }

    private static void shut() {
        promise = 23;
        JoinRouter x = new JoinRouter();
        due(x.shut(0), NONE);
        x.join(0, 0, 1, 0);
        x.join(1, 1, 2, 0);
        x.window(1, 9);
        for (int i = 0; i < 9; i++) {
            x.come(1, 0, i);
        }
        x.come(0, 0, 0);
        due(x.count(17), 10);
        for (int i = 0; i < 9; i++) {
            due(x.shut(i), 2);
        }
        due(x.shut(9), 1);
        due(x.shut(10), NONE);
        due(x.shut(-1), NONE);
        due(x.deepest(), 2);
        x.come(0, 0, 10);
        put(x, "bars").law();
        x.force(0);
        due(x.come(2, 0, 0), -3);
        due(x.count(17), 10);
        x.force(NONE);
        put(x, "come 2 with 0 and 0").orders();
        x.undo();
        x.undo();
        due(x.count(17), 10);
        x.come(0, 1, 1);
        due(x.count(17), 1);
        due(x.shut(0), 1);
        due(x.shut(1), NONE);
    }

    private static void deepest() {
        promise = 24;
        JoinRouter x = new JoinRouter();
        due(x.deepest(), 0);
        x.filter(0, 0, 0, 9);
        x.come(0, 0, 0);
        due(x.deepest(), 0);
        x.join(0, 0, 1, 0);
        x.come(0, 0, 0);
        due(x.deepest(), 1);
        x.come(1, 1, 1);
        x.join(0, 0, 2, 0);
        x.come(0, 1, 1);
        due(x.deepest(), 2);
        x.come(2, 7, 7);
        due(x.deepest(), 1);
    }

    private static void brings() {
        promise = 25;
        JoinRouter x = new JoinRouter();
        due(x.brings(0, 0, 0, 0), 1);
        due(x.brings(0, 0, 0, 1), 0);
        int[][] bad = {{-1, 0, 0, 0}, {3, 0, 0, 0}, {0, -1, 0, 0}, {0, 10, 0, 0}, {0, 0, -1, 0}, {0, 0, 10, 0}, {0, 0, 0, 2}, {0, 0, 0, -1}};
        for (int[] b : bad) {
            due(x.brings(b[0], b[1], b[2], b[3]), NONE);
        }
        due(x.count(7), 0);
        x.join(0, 0, 1, 0);
        x.filter(0, 1, 2, 3);
        x.come(1, 4, 4);
        x.come(1, 4, 5);
        due(x.brings(0, 4, 4, 0), 2);
        due(x.brings(0, 4, 4, 1), 4);
        due(x.brings(0, 4, 3, 0), 0);
        due(x.brings(0, 4, 3, 1), 4);
        due(x.brings(0, 5, 4, 1), 2);
        x.terms(0, 1);
        put(x, "bars; costs 90 if op=0").law();
        x.force(0);
        due(x.brings(0, 4, 4, 1), 92);
        due(x.brings(0, 4, 4, 0), 2);
        due(x.count(1), 2);
        due(x.operator(0, 5), 2);
        due(x.operator(1, 5), 0);
    }

    private static void cheapest() {
        promise = 26;
        JoinRouter x = new JoinRouter();
        due(x.cheapest(0, 0, 0, NONE), 0);
        due(x.cheapest(0, 0, 0, 0), NONE);
        due(x.cheapest(3, 0, 0, NONE), NONE);
        due(x.cheapest(0, 10, 0, NONE), NONE);
        due(x.cheapest(0, 0, -1, NONE), NONE);
        due(x.cheapest(0, 0, 0, -2), NONE);
        x.join(0, 0, 1, 0);
        x.filter(0, 1, 2, 3);
        x.come(1, 4, 4);
        x.come(1, 4, 5);
        // The FILTER first: 1, and 2 if it is so; as a row the first of alike ones.
        due(x.cheapest(0, 4, 3, NONE), 1);
        due(x.cheapest(0, 4, 3, 0), 1);
        due(x.cheapest(0, 4, 3, 1), 0);
        due(x.cheapest(0, 4, 3, 2), NONE);
        due(x.cheapest(0, 4, 4, NONE), 3);
        due(x.cheapest(0, 4, 4, 0), 1);
        due(x.cheapest(2, 4, 4, NONE), 0);
        due(x.cheapest(2, 4, 4, 0), 0);
        due(x.cheapest(2, 4, 4, 1), 1);
        // "tickets" as they would be: of the FILTER first 0; behind the JOIN, for each of two, 0 too.
        put(x, "costs 10+tickets*10 if op=1; costs 30 if op=0 and marks=1; costs 5 if op=0 and marks=0").law();
        x.force(0);
        due(x.cheapest(0, 4, 4, NONE), 25);
        due(x.cheapest(0, 4, 4, 0), 0);
        due(x.cheapest(0, 4, 3, NONE), 10);
        due(x.cheapest(0, 4, 3, 0), 1);
    }

    private static void regret() {
        promise = 27;
        JoinRouter x = new JoinRouter();
        due(x.regret(0, 0, 0), 0);
        due(x.regret(-1, 0, 0), NONE);
        due(x.regret(0, 10, 0), NONE);
        due(x.regret(0, 0, 10), NONE);
        x.join(0, 0, 1, 0);
        x.filter(0, 1, 2, 3);
        x.come(1, 4, 4);
        x.come(1, 4, 5);
        due(x.regret(0, 4, 3), 3);
        due(x.regret(0, 4, 4), 1);
        due(x.regret(0, 5, 4), 0);
        // By TICKETS each of two PARTIALS is taken by another one, which no fixed order can do.
        JoinRouter y = twoWays();
        put(y, "costs 0; costs 5 if op=1 and (marks=0 or marks=1 and tickets<0); costs 5 if op=2 and marks=1 and tickets=0").law();
        y.force(0);
        due(y.brings(0, 0, 5, 1), 0);
        due(y.cheapest(0, 0, 5, NONE), 5);
        due(y.regret(0, 0, 5), -5);
        due(y.regret(2, 0, 5), y.brings(2, 0, 5, 1) - y.cheapest(2, 0, 5, NONE));
        due(y.status(), 0);
    }

    /** A TUPLE 0, 0, 5 opens STATE 1 twice: for a first PARTIAL by FIELD 0 (operator 1), for a second by FIELD 1 (operator 2). */
    private static JoinRouter twoWays() {
        JoinRouter x = new JoinRouter();
        x.come(2, 0, 5);
        x.come(2, 0, 5);
        x.come(1, 0, 1);
        x.come(1, 0, 1);
        x.come(1, 1, 0);
        x.join(0, 1, 2, 1);
        x.join(0, 0, 1, 0);
        x.join(2, 0, 1, 1);
        return x;
    }

    private static void bestIndex() {
        promise = 28;
        JoinRouter x = new JoinRouter();
        due(x.bestIndex(0, 0, 0, 0), 0);
        due(x.bestIndex(-1, 0, 0, 0), NONE);
        due(x.bestIndex(3, 0, 0, 0), NONE);
        due(x.bestIndex(0, 3, 0, 0), NONE);
        due(x.bestIndex(0, 0, 10, 0), NONE);
        due(x.bestIndex(0, 0, 0, 10), NONE);
        x.join(0, 0, 1, 1);
        x.come(1, 0, 0);
        x.come(1, 1, 1);
        due(x.bestIndex(1, 0, 0, 0), 1);
        due(x.bestIndex(0, 0, 0, 0), 0);
        due(x.bestIndex(2, 0, 0, 0), 0);
        put(x, "costs 9-size").law();
        x.force(0);
        due(x.bestIndex(1, 0, 0, 0), 0);
        due(x.relation(1, 1), 2);
        due(x.index(1, 1), 2);
        due(x.bestIndex(1, 0, 0, 0), 0);
        due(x.relation(1, 1), 1);
        // STATE 1 is opened by both FIELDS, and the LAW is against looking at few.
        JoinRouter y = twoWays();
        put(y, "costs 0; costs 9 if marks=1 and size<3").law();
        y.force(0);
        due(y.bestIndex(1, 0, 0, 5), 2);
        due(y.bestIndex(2, 0, 0, 5), 0);
        y.force(NONE);
        due(y.bestIndex(1, 0, 0, 5), 1);
    }

    private static void seen() {
        promise = 29;
        JoinRouter x = new JoinRouter();
        x.come(0, 0, 0);
        int[][] bad = {{-1, 0}, {3, 0}, {0, -1}, {0, 10}, {1, 10}, {2, -1}};
        for (int[] b : bad) {
            due(x.seen(b[0], b[1]), -1);
        }
        for (int i = 1; i <= 6; i++) {
            due(x.seen(0, 9), i);
        }
        due(x.seen(0, 9), -5);
        due(x.seen(3, 9), -1);
        due(x.count(3), 6);
        due(x.count(5), 1);
        due(x.undo(), 0);
        due(x.count(3), 6);
    }

    private static void forget() {
        promise = 30;
        JoinRouter x = new JoinRouter();
        due(x.forget(), 0);
        x.seen(0, 0);
        x.seen(0, 10);
        x.seen(1, 0);
        due(x.seen(5, 5), -1);
        due(x.forget(), 2);
        due(x.status(), -1);
        due(x.forget(), 0);
        due(x.count(3), 0);
        due(x.seen(1, 1), 1);
    }

    private static void canBe() {
        promise = 31;
        JoinRouter x = new JoinRouter();
        due(x.canBe(NONE), 0);
        due(x.canBe(0), NONE);
        x.come(2, 1, 2);
        x.come(0, 1, 3);
        x.come(2, 2, 2);
        x.come(1, 1, 2);
        int[] all = {2, 4, 1, 3};
        due(x.canBe(NONE), 4);
        for (int i = 0; i < 4; i++) {
            due(x.canBe(i), all[i]);
        }
        due(x.canBe(4), NONE);
        due(x.canBe(-2), NONE);
        x.seen(1, 1);
        due(x.canBe(NONE), 3);
        due(x.canBe(2), 1);
        x.seen(2, 2);
        due(x.canBe(NONE), 2);
        due(x.canBe(0), 4);
        x.seen(0, 2);
        due(x.canBe(NONE), 1);
        due(x.canBe(0), 1);
        due(x.canBe(1), NONE);
        x.seen(0, 1);
        due(x.canBe(NONE), 0);
        due(x.canBe(0), NONE);
    }

    private static void ask() {
        promise = 32;
        JoinRouter x = new JoinRouter();
        due(x.ask(0), NONE);
        due(x.ask(1), NONE);
        x.come(0, 1, 1);
        due(x.ask(0), 0);
        due(x.ask(1), 1);
        x.come(0, 1, 2);
        due(x.ask(0), 2);
        due(x.ask(1), 1);
        x.come(0, 2, 2);
        due(x.ask(0), 1);
        due(x.ask(1), 2);
        x.come(1, 1, 2);
        due(x.ask(0), 0);
        due(x.ask(1), 3);
        x.seen(0, 0);
        due(x.ask(0), 1);
        due(x.ask(1), 2);
        due(x.ask(2), NONE);
        due(x.ask(-1), NONE);
        x.seen(1, 9);
        due(x.ask(0), NONE);
        due(x.ask(1), NONE);
    }

    private static void few() {
        promise = 33;
        JoinRouter x = new JoinRouter();
        due(x.few(0, 0), NONE);
        due(x.few(21, 0), NONE);
        due(x.few(1, -1), NONE);
        due(x.few(1, 100), NONE);
        due(x.few(1, 0), 1000000000000L);
        due(x.few(20, 0), 1000000000000L);
        due(x.few(1, 1), 900000000000L);
        due(x.few(2, 1), 1000000000000L);
        due(x.few(1, 3), 729000000000L);
        due(x.few(2, 3), 972000000000L);
        due(x.few(20, 12), 1000000000000L);
        // Nine tenths each time, cut: behind twelve of them nothing is even.
        long part = 1000000000000L;
        for (int i = 0; i < 99; i++) {
            part = part * 9 / 10;
        }
        due(x.few(1, 99), part);
        due(x.count(7), 0);
        x.terms(1, 0);
        due(x.few(1, 99), 1000000000000L);
        x.terms(1, 10);
        due(x.few(1, 1), 0);
        due(x.few(20, 19), 1000000000000L);
        due(x.few(20, 20), 0);
        x.terms(1, 3);
        due(x.few(2, 2), 910000000000L);
        // 9688901040.7 behind thirteen is cut to 9688901040, behind the next one 6782230728.
        due(x.few(1, 14), 6782230728L);
    }

    private static void compare() {
        promise = 34;
        JoinRouter x = new JoinRouter();
        x.filter(0, 0, 0, 9);
        due(x.compare(NONE, 0, 0, 0), 1);
        due(x.compare(0, 0, 0, 0), NONE);
        put(x, "costs 5; bars").law();
        put(x, "costs 6").law();
        x.force(1);
        x.terms(0, 1);
        due(x.compare(NONE, 0, 0, 0), 1);
        due(x.compare(0, 0, 0, 0), 5);
        due(x.compare(1, 0, 0, 0), 6);
        due(x.compare(2, 0, 0, 0), NONE);
        due(x.compare(-2, 0, 0, 0), NONE);
        due(x.compare(0, 3, 0, 0), NONE);
        due(x.compare(0, 0, 10, 0), NONE);
        due(x.compare(0, 0, 0, -1), NONE);
        due(x.count(12), 1);
        due(x.brings(0, 0, 0, 1), 6);
    }

    private static void days() {
        promise = 35;
        JoinRouter x = new JoinRouter();
        int[][] bad = {{-1, 1}, {1000001, 1}, {0, 0}, {0, 61}};
        for (int[] b : bad) {
            due(x.days(b[0], b[1]), -1);
        }
        // Each of 0 .. 6 brings itself, as there is no OPERATOR.
        due(x.days(5, 1), 1);
        due(x.drawn(1, 1), 1);
        due(x.count(1), 0);
        due(x.count(2), 0);
        due(x.count(5), 0);
        int came = 0;
        long s = 77;
        for (int i = 0; i < 60; i++) {
            for (int j = 0; j < 4; j++) {
                s = (s * 1103 + 12345) % 1000003;
            }
            came += s % 8 < 7 ? 1 : 0;
        }
        due(x.days(77, 60), came);
        due(x.days(0, 60) > 0 ? 1 : 0, 1);
        due(x.days(1000000, 60) > 0 ? 1 : 0, 1);
        put(x, "bars").law();
        x.force(0);
        due(x.days(77, 60), 0);
        for (int r = 0; r < 3; r++) {
            due(x.drawn(r, 1), 0);
        }
        put(x, "costs 9").law();
        x.force(1);
        x.filter(0, 0, 0, 9);
        x.filter(1, 0, 0, 9);
        x.filter(2, 0, 0, 9);
        x.terms(0, 8);
        due(x.days(77, 60), 0);
        for (int r = 0; r < 3; r++) {
            due(x.drawn(r, 1), 0);
            due(x.drawn(r, 0), 0);
        }
        due(x.status(), 0);
    }

    private static void drawn() {
        promise = 36;
        JoinRouter x = new JoinRouter();
        x.filter(0, 0, 1, 9);
        x.filter(1, 0, 1, 9);
        due(x.drawn(0, 0), NOTHING);
        due(x.drawn(0, 1), NOTHING);
        int[] held = new int[3];
        int[] tickets = new int[3];
        int[] window = {4, 4, 4};
        long s = 4242;
        for (int i = 0; i < 40; i++) {
            int[] d = new int[4];
            for (int j = 0; j < 4; j++) {
                s = (s * 1103 + 12345) % 1000003;
                d[j] = (int) (s % (j == 0 ? 3 : j == 3 ? 8 : 4));
            }
            if (d[3] == 7) {
                window[d[0]] = d[1] + 2;
            } else {
                held[d[0]]++;
                tickets[d[0]]++;
            }
            held[d[0]] = Math.min(held[d[0]], window[d[0]]);
        }
        due(x.days(4242, 40), 0);
        due(x.drawn(0, 0), tickets[0]);
        due(x.drawn(1, 0), tickets[1]);
        due(x.drawn(2, 0), NOTHING);
        due(x.drawn(-1, 0), NOTHING);
        for (int r = 0; r < 3; r++) {
            due(x.drawn(r, 1), held[r]);
        }
        due(x.drawn(3, 1), NOTHING);
        due(x.drawn(-1, 1), NOTHING);
        due(x.drawn(0, 2), NOTHING);
        due(x.drawn(0, -1), NOTHING);
        x.strike(0);
        x.strike(0);
        x.days(0, 0);
        due(x.drawn(1, 0), tickets[1]);
        x.days(4242, 40);
        due(x.drawn(0, 0), NOTHING);
    }

    private static void image() {
        promise = 37;
        JoinRouter x = new JoinRouter();
        due(x.image(-1), -1);
        due(x.image(2), -1);
        due(x.count(7), 2);
        x.come(0, 0, 0);
        due(x.image(0), 0);
        due(x.image(1), 0);
        due(x.status(), 0);
        due(x.count(5), 1);
        x.come(0, 0, 0);
        due(x.image(1), 0);
        due(x.back(0), 0);
        due(x.count(1), 1);
        due(x.back(1), 0);
        due(x.count(1), 2);
    }

    private static void back() {
        promise = 38;
        JoinRouter x = new JoinRouter();
        due(x.back(0), -2);
        due(x.back(2), -1);
        due(x.back(-1), -1);
        x.join(0, 0, 1, 0);
        x.come(0, 3, 3);
        x.come(1, 3, 4);
        x.window(2, 7);
        x.index(2, 1);
        x.terms(0, 500);
        x.terms(1, 2);
        x.terms(2, 3);
        x.seen(0, 1);
        put(x, "costs 11").law();
        x.force(0);
        x.image(0);
        int tickets = x.operator(0, 5);
        x.strike(0);
        x.come(2, 9, 9);
        x.window(2, 1);
        x.index(2, 0);
        x.terms(0, 1);
        x.terms(1, 1);
        x.terms(2, 1);
        x.forget();
        put(x, "costs 12").law();
        x.force(1);
        put(x, "bars if").orders();
        put(x, "strike 0").orders();
        put(x, "\7\7\7\7").row();
        x.days(5, 5);
        int drawn = x.drawn(0, 1);
        put(x, "abc");
        int refused = x.count(7) + x.count(8) + x.count(9) + x.count(11);
        due(x.back(1), -2);
        due(x.back(0), 0);
        due(x.status(), 0);
        due(x.count(0), 1);
        due(x.operator(0, 5), tickets);
        due(x.count(1), 2);
        due(x.count(2), 1);
        due(x.count(3), 1);
        due(x.canBe(0), 2);
        due(x.count(4), 1);
        due(x.count(12), 0);
        due(x.count(13), 500);
        due(x.count(14), 2);
        due(x.count(15), 3);
        due(x.relation(2, 0), 7);
        due(x.relation(2, 1), 1);
        due(x.relation(2, 2), 0);
        due(x.brings(0, 3, 3, 1), 11);
        due(x.count(5), 0);
        due(x.undo(), -3);
        due(x.count(6), 3);
        due(x.fault(), NONE);
        due(x.stopped(), 0);
        due(x.strays(), 2);
        due(x.drawn(0, 1), drawn);
        due(x.result(0, 2), 3);
        due(x.count(16), 1);
        due(x.count(17), 0);
        due(x.count(7) + x.count(8) + x.count(9) + x.count(11), refused + 2);
        // LAWS told behind an IMAGE do not change those that it keeps.
        x.end(0);
        due(put(x, "costs 13").law(), 1);
        x.force(1);
        due(x.brings(0, 3, 3, 1), 13);
        x.image(1);
        due(x.back(0), 0);
        due(put(x, "costs 14").law(), 1);
        x.back(1);
        due(x.brings(0, 3, 3, 1), 13);
        x.come(0, 1, 1);
        x.back(0);
        due(x.undo(), -3);
        x.back(0);
        due(x.count(1), 2);
    }

    private static void count() {
        promise = 39;
        JoinRouter x = new JoinRouter();
        due(x.count(-1), NONE);
        due(x.count(18), NONE);
        x.join(0, 0, 1, 0);
        x.come(0, 1, 1);
        x.come(1, 1, 1);
        x.seen(0, 0);
        put(x, "costs 1").law();
        x.force(0);
        x.come(5, 5, 5);
        x.strike(5);
        x.strike(6);
        x.undo();
        x.undo();
        x.undo();
        x.undo();
        x.undo();
        put(x, "?").law();
        x.row();
        x.row();
        x.row();
        x.terms(0, 1);
        put(x, "costs 2").law();
        x.force(1);
        x.join(0, 0, 1, 0);
        x.come(1, 2, 2);
        x.come(1, 2, 2);
        due(x.come(0, 2, 2), -5);
        x.feed(1, 2, 3, 4, 5);
        int[] counts = {1, 0, 0, 1, 2, 1, 20, 1, 2, 2, 3, 4, 1, 1, 1, 0, 1, 0};
        for (int what = 0; what < counts.length; what++) {
            due(x.count(what), counts[what]);
        }
    }

    private static void status() {
        promise = 40;
        JoinRouter x = new JoinRouter();
        due(x.status(), 0);
        x.join(0, 0, 0, 0);
        due(x.status(), -1);
        x.feed(0, 0, 0, 0, 0);
        x.end(500);
        x.operator(9, 9);
        x.forget();
        x.brings(9, 9, 9, 9);
        x.few(0, 0);
        due(x.status(), -1);
        x.row();
        due(x.status(), 0);
        x.row();
        due(x.status(), -6);
        x.force(3);
        due(x.status(), -2);
        x.undo();
        due(x.status(), -3);
        x.image(0);
        due(x.status(), 0);
        x.window(0, 4);
        due(x.status(), -3);
        x.terms(2, 2);
        due(x.status(), 0);
        x.filter(0, 0, 5, 5);
        due(x.status(), -1);
        x.index(0, 0);
        due(x.status(), 0);
        x.back(1);
        due(x.status(), -2);
        x.days(1, 1);
        due(x.status(), 0);
        x.seen(9, 9);
        due(x.status(), -1);
        put(x, "costs 1").law();
        due(x.status(), 0);
        put(x, "strike 1").orders();
        due(x.status(), -3);
        x.force(0);
        due(x.status(), 0);
        x.strike(0);
        due(x.status(), -2);
        x.come(0, 0, 0);
        due(x.status(), 0);
    }
}
