import java.util.Map;

/** Each call that is REFUSED: by which number, and that it changes nothing but what the document says; and calls that only look, which change nothing at all. */
public final class RefusedTest extends Check {
    private static final Ready NO_MORE = x -> { };

    private RefusedTest() {
    }

    public static void main(String[] args) {
        runAll(RefusedTest.class);
    }

    /** An object that has something of all that there is, and bytes on its TAPE. */
    private static JoinRouter furnished() {
        JoinRouter x = new JoinRouter();
        x.come(1, 2, 2);
        x.image(1);
        x.join(0, 0, 1, 0);
        row(x, 2, 4, 5, 9, 9, 9, 1);
        x.join(1, 1, 2, 1);
        x.filter(0, 1, 2, 0);
        x.come(0, 2, 3);
        x.come(1, 2, 5);
        law(x, "costs size+1; bars if a=8");
        law(x, "costs 3 if op=1");
        x.force(0);
        x.terms(0, 900);
        x.terms(1, 3);
        x.terms(2, 4);
        x.seen(1, 2);
        x.image(0);
        x.days(9, 12);
        x.window(2, 3);
        x.index(1, 0);
        x.come(0, 2, 4);
        orders(x, "window 0 to 5; strike 7");
        law(x, "bars if a");
        put(x, "abc");
        return x;
    }

    private static JoinRouter made(Ready more) {
        JoinRouter x = furnished();
        more.make(x);
        return x;
    }

    /** REFUSED by that; of all that can be asked only what is told in changes, "call=answer", is another one behind it. */
    private static void refused(Ready more, Call call, int by, String... changes) {
        JoinRouter x = made(more);
        int[] counts = new int[5];
        for (int way = 0; way < 5; way++) {
            counts[way] = x.count(7 + way);
        }
        Map<String, Long> want = photo(x);
        due(call.on(x), by);
        due(x.status(), by);
        for (int way = 0; way < 5; way++) {
            int number = way < 3 ? -1 - way : -2 - way;
            due("count(" + (7 + way) + ")", x.count(7 + way), counts[way] + (number == by ? 1 : 0));
        }
        for (String change : changes) {
            String[] two = change.split("=");
            want.put(two[0], Long.parseLong(two[1]));
        }
        due(photo(x), want);
        due(x.status(), by);
        undoneAlike(more, call);
        goneBackAlike(more, call, changes);
    }

    /** Behind the call the same acts can be undone as without it. */
    private static void undoneAlike(Ready more, Call call) {
        JoinRouter x = made(more);
        JoinRouter y = made(more);
        call.on(x);
        for (int i = 0; i < 17; i++) {
            due(x.undo(), y.undo());
            for (int what = 0; what < 3; what++) {
                due(x.count(what), y.count(what));
                due(x.relation(what, 0) * 10 + x.relation(what, 1), y.relation(what, 0) * 10 + y.relation(what, 1));
                due(x.relation(what, 2), y.relation(what, 2));
            }
            due(x.operator(0, 5), y.operator(0, 5));
        }
    }

    /** Behind the call IMAGES are as without it. */
    private static void goneBackAlike(Ready more, Call call, String... changes) {
        for (int k = 0; k <= 1; k++) {
            JoinRouter x = made(more);
            JoinRouter y = made(more);
            call.on(x);
            due(x.back(k), y.back(k));
            Map<String, Long> want = photo(y);
            for (String change : changes) {
                String[] two = change.split("=");
                want.put(two[0], Long.parseLong(two[1]));
            }
            due(photo(x), want);
        }
    }

    /** Answers that, and nothing is another one behind it, not even status() and what was REFUSED. */
    private static void looks(Ready more, Call call, long answer) {
        JoinRouter x = made(more);
        x.strike(99);
        Map<String, Long> want = photo(x);
        due(call.on(x), answer);
        due(x.status(), -2);
        due(x.count(8), made(more).count(8) + 1);
        due(x.count(7) + x.count(9) + x.count(10) + x.count(11), made(more).count(7) + made(more).count(9) + made(more).count(10) + made(more).count(11));
        due(photo(x), want);
        undoneAlike(more, call);
        goneBackAlike(more, call);
    }

    private static void looks(Call call, long answer) {
        looks(NO_MORE, call, answer);
    }

    // ---- what is REFUSED

    @Says("A JOIN: its number. -1 (one RELATION alone, too); -5.")
    static void join() {
        int[][] bad = {{-1, 0, 1, 0}, {3, 0, 1, 0}, {0, -1, 1, 0}, {0, 2, 1, 0}, {0, 0, -1, 0}, {0, 0, 3, 0}, {0, 0, 1, -1}, {0, 0, 1, 2}, {0, 0, 0, 0}, {0, 0, 0, 1},
            {1, 1, 1, 0}, {2, 0, 2, 0}, {LEAST, LEAST, LEAST, LEAST}, {MOST, MOST, MOST, MOST}};
        for (int[] b : bad) {
            refused(NO_MORE, x -> x.join(b[0], b[1], b[2], b[3]), -1);
        }
        refused(x -> x.filter(2, 0, 0, 9), x -> x.join(0, 0, 1, 0), -5);
        refused(x -> x.filter(2, 0, 0, 9), x -> x.join(0, 0, 0, 0), -1);
    }

    @Says("A FILTER: its number (kind 0 below, 1 as, 2 above). -1; -5.")
    static void filter() {
        int[][] bad = {{-1, 0, 0, 0}, {3, 0, 0, 0}, {0, -1, 0, 0}, {0, 2, 0, 0}, {0, 0, -1, 0}, {0, 0, 3, 0}, {0, 0, 0, -1}, {0, 0, 0, 10}, {LEAST, 0, 0, 0},
            {0, MOST, 0, 0}, {0, 0, LEAST, 0}, {0, 0, 0, MOST}};
        for (int[] b : bad) {
            refused(NO_MORE, x -> x.filter(b[0], b[1], b[2], b[3]), -1);
        }
        refused(x -> x.join(0, 0, 1, 1), x -> x.filter(0, 0, 0, 9), -5);
        refused(x -> x.join(0, 0, 1, 1), x -> x.filter(0, 0, 0, 10), -1);
    }

    @Says("A TERM: what it was. -1.")
    static void terms() {
        int[][] bad = {{-1, 1}, {3, 1}, {0, 0}, {0, 1000}, {1, -1}, {1, 11}, {2, -1}, {2, 10}, {LEAST, 1}, {MOST, 1}, {0, LEAST}, {1, MOST}};
        for (int[] b : bad) {
            refused(NO_MORE, x -> x.terms(b[0], b[1]), -1);
        }
    }

    @Says("-6 the TAPE is empty.")
    static void row() {
        refused(x -> x.end(0), JoinRouter::row, -6);
    }

    @Says("-5 (ahead of reading it; the TAPE is empty then, too)")
    static void lawWithoutRoom() {
        Ready six = x -> {
            for (int i = 0; i < 4; i++) {
                law(x, "costs " + i);
            }
            law(x, "costs ?");
        };
        for (String text : new String[] {"costs 5", "costs", "?", "   "}) {
            refused(x -> {
                six.make(x);
                put(x, text);
            }, JoinRouter::law, -5, "count(6)=0");
        }
        refused(x -> {
            six.make(x);
            x.end(0);
        }, JoinRouter::law, -5);
    }

    @Says("-6 (blanks alone: FAULT at the end).")
    static void lawThatCannotBe() {
        String[] text = {"", " ", "costs", "costs 1;", "bars if", "costs 1001", "strike 0"};
        int[] fault = {0, 1, 5, 8, 7, 6, 0};
        for (int i = 0; i < text.length; i++) {
            String t = text[i];
            refused(x -> put(x, t), JoinRouter::law, -6, "count(6)=0", "fault()=" + fault[i]);
        }
    }

    @Says("-3 one can't be; -6 (as for law()).")
    static void orders() {
        String[] text = {"", "  ", "strike", "strike 0;", "costs 1"};
        int[] fault = {0, 2, 6, 9, 0};
        for (int i = 0; i < text.length; i++) {
            String t = text[i];
            refused(x -> put(x, t), JoinRouter::orders, -6, "count(6)=0", "fault()=" + fault[i], "stopped()=-1");
        }
        String acts = "come 0 with 2 and 3 times 20; come 1 with 2 and 5; strike 1; window 0 to 1; index 2 to 1";
        refused(x -> put(x, acts + "; strike 9"), JoinRouter::orders, -3, "count(6)=0", "fault()=-1", "stopped()=5");
        refused(x -> put(x, "come 9 with 0 and 0; " + acts), JoinRouter::orders, -3, "count(6)=0", "fault()=-1", "stopped()=0");
        refused(x -> put(x, "come 0 with 8 and 0"), JoinRouter::orders, -3, "count(6)=0", "fault()=-1", "stopped()=0");
        refused(x -> {
            x.terms(0, 1);
            put(x, "strike 0; window 1 to 2; come 0 with 2 and 5; come 1 with 2 and 5");
        }, JoinRouter::orders, -3, "count(6)=0", "fault()=-1", "stopped()=2");
    }

    @Says("A LAW is in FORCE (NONE: none): which was. -2.")
    static void force() {
        for (int law : new int[] {2, 3, 6, -2, LEAST, MOST}) {
            refused(NO_MORE, x -> x.force(law), -2);
        }
    }

    @Says("To COME: how many RESULTS. -1; -3 (BARRED; STAMP 999); -5 (given up).")
    static void come() {
        int[][] bad = {{-1, 0, 0}, {3, 0, 0}, {0, -1, 0}, {0, 10, 0}, {0, 0, -1}, {0, 0, 10}, {LEAST, 0, 0}, {0, MOST, 0}, {0, 0, LEAST}};
        for (int[] b : bad) {
            refused(NO_MORE, x -> x.come(b[0], b[1], b[2]), -1);
        }
        refused(NO_MORE, x -> x.come(0, 8, 0), -3);
        refused(NO_MORE, x -> x.come(2, 8, 9), -3);
        refused(x -> {
            for (int o = 0; o < 3; o++) {
                x.strike(0);
            }
            comeMany(x, 1, 0, 0, 999 - x.count(1));
        }, x -> x.come(0, 0, 0), -3);
        // By what is COST there nothing was opened yet; one was.
        refused(x -> x.terms(0, 1), x -> x.come(0, 2, 5), -5, "count(17)=0", "deepest()=0", "shut(0)=-1", "shut(1)=-1", "shut(2)=-1", "shut(3)=-1");
        refused(x -> {
            x.force(NONE);
            // The FILTER 1, the JOIN 2, the next JOIN is too much.
            x.terms(0, 3);
        }, x -> x.come(0, 2, 5), -5, "count(17)=1", "deepest()=1", "shut(0)=1", "shut(1)=-1", "shut(2)=-1");
    }

    @Says("To STRIKE: how many OPERATORS then. -2.")
    static void strike() {
        for (int o : new int[] {3, 4, -1, LEAST, MOST}) {
            refused(NO_MORE, x -> x.strike(o), -2);
        }
    }

    @Says("Another WINDOW: how many TUPLES went. -1; -3 it is so.")
    static void window() {
        int[][] bad = {{-1, 1}, {3, 1}, {0, 0}, {0, 10}, {0, -1}, {LEAST, 1}, {MOST, 1}, {0, LEAST}, {0, MOST}, {3, 4}};
        for (int[] b : bad) {
            refused(NO_MORE, x -> x.window(b[0], b[1]), -1);
        }
        refused(NO_MORE, x -> x.window(0, 4), -3);
        refused(NO_MORE, x -> x.window(2, 3), -3);
    }

    @Says("Another INDEX: what it was. -1; -3 it is so.")
    static void index() {
        int[][] bad = {{-1, 1}, {3, 1}, {0, -1}, {0, 3}, {LEAST, 1}, {MOST, 1}, {0, LEAST}, {0, MOST}, {3, 2}};
        for (int[] b : bad) {
            refused(NO_MORE, x -> x.index(b[0], b[1]), -1);
        }
        refused(NO_MORE, x -> x.index(0, 2), -3);
        refused(NO_MORE, x -> x.index(1, 0), -3);
        refused(x -> x.index(2, 1), x -> x.index(2, 1), -3);
    }

    @Says("-3 there is none (nothing that was ahead of a row(), back() that was not REFUSED can be undone).")
    static void undo() {
        refused(x -> row(x, 9), JoinRouter::undo, -3);
        refused(x -> x.back(0), JoinRouter::undo, -3);
        refused(x -> {
            for (int i = 0; i < 16; i++) {
                x.undo();
            }
        }, JoinRouter::undo, -3);
    }

    @Says("SEEN: how often there was. -1 (FACT, n 0 .. 9); -5.")
    static void seen() {
        int[][] bad = {{-1, 0}, {3, 0}, {0, -1}, {0, 10}, {1, 10}, {2, -1}, {2, 10}, {LEAST, 0}, {MOST, 0}, {0, LEAST}, {0, MOST}};
        for (int[] b : bad) {
            refused(NO_MORE, x -> x.seen(b[0], b[1]), -1);
        }
        Ready six = x -> {
            for (int i = 0; i < 5; i++) {
                x.seen(0, 1);
            }
        };
        refused(six, x -> x.seen(0, 0), -5);
        refused(six, x -> x.seen(0, 10), -1);
    }

    @Says("DAYS, kept as the latest: how many RESULTS there were in them. -1.")
    static void days() {
        int[][] bad = {{-1, 1}, {1000001, 1}, {0, 0}, {0, -1}, {0, 61}, {LEAST, 1}, {MOST, 1}, {0, LEAST}, {0, MOST}};
        for (int[] b : bad) {
            refused(NO_MORE, x -> x.days(b[0], b[1]), -1);
        }
    }

    @Says("IMAGE k is kept: 0; -1.")
    static void image() {
        for (int k : new int[] {-1, 2, LEAST, MOST}) {
            refused(NO_MORE, x -> x.image(k), -1);
        }
    }

    @Says("BACK to IMAGE k: 0. -1; -2 it was not kept.")
    static void back() {
        for (int k : new int[] {-1, 2, LEAST, MOST}) {
            refused(NO_MORE, x -> x.back(k), -1);
        }
        for (int k = 0; k <= 1; k++) {
            JoinRouter x = new JoinRouter();
            x.image(1 - k);
            x.come(0, 1, 1);
            Map<String, Long> want = photo(x);
            due(x.back(k), -2);
            due(x.status(), -2);
            due(x.count(8), 1);
            due(x.count(7), 0);
            due(photo(x), want);
            due(x.undo(), 0);
            due(x.back(1 - k), 0);
        }
    }

    // ---- what is answered by NONE, NOTHING, and no more than that

    @Says("NONE, if there would be more than 400.")
    static void feedTooMuch() {
        Ready full = x -> {
            for (int i = 0; i < 20; i++) {
                x.feed(i, i, i, i, i);
            }
            add(x, many("x", 20));
        };
        looks(full, x -> x.feed(1, 2, 3, 4, 5), NONE);
        looks(x -> {
            x.end(0);
            full.make(x);
        }, x -> x.feed(1, 2, 3, 4, 5), NONE);
    }

    @Says("NONE, if it has not so many, or n is below 0.")
    static void endTooMuch() {
        for (int n : new int[] {-1, 4, 20, 400, 401, LEAST, MOST}) {
            looks(x -> x.end(n), NONE);
        }
        looks(x -> x.end(3), 3);
        looks(x -> x.end(0), x -> x.end(1), NONE);
    }

    @Says("TICKETS (5). NOTHING.")
    static void lookAtOperators() {
        looks(x -> x.operator(3, 0), NOTHING);
        looks(x -> x.operator(-1, 0), NOTHING);
        looks(x -> x.operator(0, 6), NOTHING);
        looks(x -> x.operator(0, -1), NOTHING);
        looks(x -> x.operator(2, 0), 1);
        looks(x -> x.drawn(3, 0), NOTHING);
        looks(x -> x.drawn(3, 1), NOTHING);
        looks(x -> x.drawn(0, 2), NOTHING);
    }

    @Says("`NONE = -1`: There is none.")
    static void lookAtNone() {
        Call[] calls = {x -> x.relation(3, 0), x -> x.relation(0, 3), x -> x.tuple(3, 0, 0), x -> x.tuple(0, 9, 0), x -> x.tuple(0, 0, 3), x -> x.result(9, 0),
            x -> x.result(0, 3), x -> x.shut(9), x -> x.brings(3, 0, 0, 0), x -> x.brings(0, 0, 0, 2), x -> x.cheapest(0, 10, 0, 0), x -> x.cheapest(0, 0, 0, 3),
            x -> x.regret(0, 0, 10), x -> x.bestIndex(3, 0, 0, 0), x -> x.bestIndex(0, 3, 0, 0), x -> x.canBe(9), x -> x.canBe(-2), x -> x.ask(2), x -> x.few(0, 0),
            x -> x.few(21, 0), x -> x.few(1, 100), x -> x.compare(2, 0, 0, 0), x -> x.compare(0, 3, 0, 0), x -> x.count(18), x -> x.count(-1)};
        for (Call call : calls) {
            looks(call, NONE);
        }
    }

    @Says("Nothing is promised beyond the answers and state changes described above")
    static void lookOnly() {
        JoinRouter same = furnished();
        Call[] calls = {x -> x.relation(0, 0), x -> x.tuple(0, 0, 0), x -> x.strays(), x -> x.fault(), x -> x.stopped(), x -> x.result(0, 0), x -> x.shut(0),
            x -> x.deepest(), x -> x.brings(0, 2, 3, 0), x -> x.brings(0, 8, 3, 1), x -> x.cheapest(0, 2, 3, NONE), x -> x.cheapest(0, 2, 3, 0), x -> x.regret(0, 2, 3),
            x -> x.bestIndex(1, 0, 2, 3), x -> x.canBe(NONE), x -> x.canBe(0), x -> x.ask(0), x -> x.ask(1), x -> x.few(20, 99), x -> x.compare(1, 0, 2, 3),
            x -> x.drawn(0, 0), x -> x.drawn(0, 1), x -> x.count(0)};
        for (Call call : calls) {
            looks(call, call.on(same));
        }
    }

    @Says("It leaves what can be undone.")
    static void whatLeavesUndo() {
        Call[] calls = {x -> x.terms(0, 5), x -> law(x, "costs 1"), x -> x.force(NONE), x -> x.force(1), x -> x.seen(0, 0), x -> x.forget(), x -> x.image(0),
            x -> x.days(4, 60), x -> orders(x, "strike 0 if 1=2")};
        for (Call call : calls) {
            undoneAlike(NO_MORE, call);
        }
    }
}
