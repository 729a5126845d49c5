import java.util.Map;

/** Each sentence of promises 1 to 40 that names an edge; what is REFUSED leaves all as it was is in RefusedTest. */
public final class EdgesOfCallsTest extends Check {
    private EdgesOfCallsTest() {
    }

    public static void main(String[] args) {
        runAll(EdgesOfCallsTest.class);
    }

    // ---- 1 to 7

    @Says("`JoinRouter()`: No operators, no tuples.")
    static void p01NewObject() {
        JoinRouter x = new JoinRouter();
        int[] counts = {0, 0, 0, 0, 0, 0, 0, 0, 0, 0, 0, 0, NONE, 999, 1, 0, 0, 0};
        for (int what = 0; what < counts.length; what++) {
            due(x.count(what), counts[what]);
        }
        for (int i = 0; i < 4; i++) {
            due(x.operator(i, 0), NOTHING);
            due(x.operator(i, 5), NOTHING);
            due(x.shut(i), NONE);
            due(x.drawn(i, 0), NOTHING);
            due(x.drawn(i, 1), NOTHING);
        }
        for (int r = 0; r < 3; r++) {
            due(x.relation(r, 0), 4);
            due(x.relation(r, 1), 2);
            due(x.relation(r, 2), 0);
            due(x.tuple(r, 0, 0), NONE);
            due(x.result(0, r), NONE);
        }
        due(x.status(), 0);
        due(x.strays(), 0);
        due(x.fault(), NONE);
        due(x.stopped(), NONE);
        due(x.deepest(), 0);
        due(x.canBe(NONE), 0);
        due(x.ask(0), NONE);
        due(x.forget(), 0);
        due(x.undo(), -3);
        due(x.back(0), -2);
        due(x.back(1), -2);
        due(x.end(0), 0);
    }

    @Says("A JOIN: its number. -1 (one RELATION alone, too); -5.")
    static void p02Join() {
        for (int one = 0; one < 3; one++) {
            for (int other = 0; other < 3; other++) {
                for (int f = 0; f < 4; f++) {
                    JoinRouter x = new JoinRouter();
                    due(x.join(one, f / 2, other, f % 2), one == other ? -1 : 0);
                    due(x.count(0), one == other ? 0 : 1);
                    due(x.operator(0, 1), one == other ? NOTHING : one);
                    due(x.operator(0, 2), one == other ? NOTHING : f / 2);
                    due(x.operator(0, 3), one == other ? NOTHING : other);
                    due(x.operator(0, 4), one == other ? NOTHING : f % 2);
                    due(x.count(5), one == other ? 0 : 1);
                }
            }
        }
    }

    @Says("Of an OPERATOR whether it is a FILTER (what 0: 1, 0), the RELATION (1), the FIELD (2), the other RELATION or the kind (3), the other FIELD or the number (4), "
            + "TICKETS (5). NOTHING.")
    static void p04Operator() {
        JoinRouter x = new JoinRouter();
        x.join(2, 1, 1, 0);
        x.filter(1, 1, 2, 9);
        x.filter(0, 0, 0, 0);
        int[][] parts = {{0, 2, 1, 1, 0, 0}, {1, 1, 1, 2, 9, 0}, {1, 0, 0, 0, 0, 0}};
        for (int o = -1; o <= 4; o++) {
            for (int what = -1; what <= 6; what++) {
                boolean there = o >= 0 && o < 3 && what >= 0 && what < 6;
                due(x.operator(o, what), there ? parts[o][what] : NOTHING);
            }
        }
        for (int far : new int[] {LEAST, MOST}) {
            due(x.operator(far, 0), NOTHING);
            due(x.operator(0, far), NOTHING);
        }
        // TICKETS may be below 0, so that NONE could be one.
        JoinRouter y = new JoinRouter();
        comeAll(y, 1, 3, 0, 3, 0);
        y.join(0, 0, 1, 0);
        y.come(0, 3, 0);
        due(y.operator(0, 5), -1);
    }

    @Says("Of a RELATION WINDOW (what 0), INDEX (1), how many TUPLES the STATE has (2). NONE.")
    static void p05Relation() {
        JoinRouter x = new JoinRouter();
        x.window(1, 9);
        x.index(1, 0);
        x.come(1, 0, 0);
        for (int r = -1; r <= 3; r++) {
            for (int what = -1; what <= 3; what++) {
                boolean there = r >= 0 && r < 3 && what >= 0 && what < 3;
                due(x.relation(r, what), !there ? NONE : r == 1 ? new int[] {9, 0, 1}[what] : new int[] {4, 2, 0}[what]);
            }
        }
        for (int far : new int[] {LEAST, MOST}) {
            due(x.relation(far, 0), NONE);
            due(x.relation(0, far), NONE);
        }
    }

    @Says("Of the i-th TUPLE of a STATE, by rising STAMPS, FIELD 0, 1 (what 0, 1), STAMP (2). NONE.")
    static void p06Tuple() {
        JoinRouter x = new JoinRouter();
        x.come(0, 9, 9);
        comeAll(x, 2, 5, 6, 7, 8);
        int[][] parts = {{5, 6, 2}, {7, 8, 3}};
        for (int i = -1; i <= 9; i++) {
            for (int what = -1; what <= 3; what++) {
                boolean there = i >= 0 && i < 2 && what >= 0 && what < 3;
                due(x.tuple(2, i, what), there ? parts[i][what] : NONE);
                due(x.tuple(1, i, what), NONE);
                due(x.tuple(3, i, what), NONE);
                due(x.tuple(-1, i, what), NONE);
            }
        }
        for (int far : new int[] {LEAST, MOST}) {
            due(x.tuple(far, 0, 0), NONE);
            due(x.tuple(2, far, 0), NONE);
            due(x.tuple(2, 0, far), NONE);
        }
        // What has gone is not there, though the row has room for it.
        x.window(2, 1);
        due(x.tuple(2, 0, 2), 3);
        due(x.tuple(2, 1, 2), NONE);
        x.undo();
        due(x.tuple(2, 1, 2), 3);
    }

    @Says("A TERM: what it was. -1. It leaves what can be undone.")
    static void p07Terms() {
        JoinRouter x = new JoinRouter();
        x.come(0, 1, 1);
        due(x.terms(0, 2), 999);
        due(x.terms(1, 3), 1);
        due(x.terms(2, 4), 0);
        for (int what : new int[] {-1, 3, LEAST, MOST}) {
            due(x.terms(what, 1), -1);
        }
        due(x.count(5), 1);
        due(x.undo(), 0);
        due(x.count(13), 2);
        due(x.count(14), 3);
        due(x.count(15), 4);
        // A TERM that is so already is taken, too.
        due(x.terms(0, 2), 2);
        due(x.status(), 0);
    }

    // ---- 8 to 16

    @Says("Twenty bytes come behind the TAPE, four of each number, the highest first: how many it has.")
    static void p08Feed() {
        JoinRouter x = new JoinRouter();
        due(x.feed(0x00010201, 0x03040205, 0x06000708, 0x01090902, 0x00000000), 20);
        due(x.end(18), 18);
        due(x.row(), 6);
        int[][] want = {{0, 1, 2, 1}, {1, 3, 4, 2}, {2, 5, 6, 3}, {0, 7, 8, 4}, {1, 9, 9, 5}, {2, 0, 0, 6}};
        for (int i = 0; i < 6; i++) {
            for (int what = 0; what < 3; what++) {
                due(x.tuple(want[i][0], i / 3, what), want[i][what + 1]);
            }
        }
        // Numbers below 0 have bytes above 127.
        for (int at = 0; at < 20; at++) {
            JoinRouter y = new JoinRouter();
            int[] five = {0x20202020, 0x20202020, 0x20202020, 0x20202020, 0x20202020};
            five[at / 4] = five[at / 4] & ~(255 << 24 - at % 4 * 8) | 0xe9 << 24 - at % 4 * 8;
            due(y.feed(five[0], five[1], five[2], five[3], five[4]), 20);
            due(y.law(), -6);
            due(y.fault(), at);
        }
        due(x.feed(-1, -1, -1, -1, LEAST), 20);
        due(x.feed(MOST, 0, 0, 0, 0), 40);
        due(x.row(), 5);
        due(x.strays(), 9);
    }

    @Says("NONE, if there would be more than 400.")
    static void p08FeedToTheLast() {
        for (int left : new int[] {380, 381, 399, 400}) {
            JoinRouter x = new JoinRouter();
            for (int i = 1; i <= 20; i++) {
                due(x.feed(0, 0, 0, 0, 0), 20 * i);
            }
            due(x.feed(0, 0, 0, 0, 0), NONE);
            due(x.end(left), left);
            due(x.feed(0, 0, 0, 0, 0), left == 380 ? 400 : NONE);
            due(x.count(6), left == 380 ? 400 : left);
            due(x.status(), 0);
            due(x.count(7) + x.count(10), 0);
        }
    }

    @Says("The TAPE has its first n bytes alone: n.")
    static void p09End() {
        for (int n = 0; n <= 20; n++) {
            JoinRouter x = new JoinRouter();
            add(x, "costs 1;;;;;;;;;;;;;");
            due(x.end(n), n);
            due(x.count(6), n);
            due(x.end(n), n);
            due(x.end(n + 1), NONE);
            due(x.count(6), n);
            // What was cut is gone: what comes behind stands in its place.
            due(x.feed(0x20202020, 0x20202020, 0x20202020, 0x20202020, 0x20202020), n + 20);
            x.law();
            due(x.fault(), n == 7 ? NONE : n > 8 ? 8 : n == 8 ? 28 : n == 6 || n == 5 || n == 0 ? n + 20 : 0);
        }
    }

    @Says("NONE, if it has not so many, or n is below 0.")
    static void p09EndBeside() {
        JoinRouter x = new JoinRouter();
        for (int n : new int[] {-1, 1, LEAST, MOST}) {
            due(x.end(n), NONE);
        }
        due(x.end(0), 0);
        x.feed(0, 0, 0, 0, 0);
        for (int n : new int[] {-1, 21, 400, LEAST, MOST}) {
            due(x.end(n), NONE);
            due(x.count(6), 20);
        }
        due(x.end(20), 20);
        due(x.status(), 0);
    }

    @Says("A ROW, the TAPE is empty then: how many CAME. -6 the TAPE is empty.")
    static void p10Row() {
        JoinRouter x = new JoinRouter();
        due(x.row(), -6);
        due(x.status(), -6);
        x.come(0, 1, 1);
        due(x.row(), -6);
        due(x.undo(), 0);
        due(row(x, 0), 0);
        due(x.status(), 0);
        due(x.count(6), 0);
        due(row(x, 0, 0), 0);
        due(row(x, 0, 0, 0), 1);
        due(row(x, 0, 0, 0, 0), 1);
        due(x.row(), -6);
        due(x.count(11), 3);
        due(x.count(1), 2);
        due(x.count(2), 2);
        due(x.count(5), 0);
        x.come(1, 1, 1);
        due(row(x, 9), 0);
        due(x.undo(), -3);
    }

    @Says("How many STRAYS the latest row() had that was not REFUSED (0 ahead of any).")
    static void p11Strays() {
        JoinRouter x = new JoinRouter();
        due(x.strays(), 0);
        x.row();
        due(x.strays(), 0);
        row(x, 9, 9, 9, 9);
        due(x.strays(), 2);
        x.row();
        due(x.strays(), 2);
        x.come(9, 9, 9);
        due(x.strays(), 2);
        row(x, 0, 0, 0);
        due(x.strays(), 0);
        row(x, many("\11", 400).chars().toArray());
        due(x.strays(), 134);
    }

    @Says("The TAPE, which is empty then, becomes a LAW: its number.")
    static void p12Law() {
        JoinRouter x = new JoinRouter();
        x.come(0, 0, 0);
        due(law(x, "costs 7"), 0);
        due(x.count(6), 0);
        due(law(x, "costs ?"), -6);
        due(x.count(6), 0);
        due(law(x, "costs 8"), 1);
        due(x.law(), -6);
        due(x.fault(), 0);
        due(x.count(4), 2);
        due(x.count(5), 1);
        // LAWS told behind an IMAGE are gone behind BACK, their numbers free.
        x.image(0);
        due(law(x, "costs 9"), 2);
        x.back(0);
        due(x.count(4), 2);
        due(law(x, "costs 5"), 2);
        x.filter(0, 0, 0, 9);
        due(x.compare(2, 0, 0, 0), 5);
    }

    @Says("-5 (ahead of reading it; the TAPE is empty then, too); -6 (blanks alone: FAULT at the end).")
    static void p12LawWithoutRoom() {
        JoinRouter x = new JoinRouter();
        for (int i = 0; i < 5; i++) {
            law(x, "bars");
        }
        due(law(x, "  bars ?"), -6);
        due(x.fault(), 7);
        due(law(x, "     "), -6);
        due(x.fault(), 5);
        due(law(x, "bars"), 5);
        due(x.fault(), NONE);
        due(law(x, "     "), -5);
        due(x.fault(), NONE);
        due(x.count(6), 0);
        due(law(x, "bars"), -5);
        due(x.count(6), 0);
        due(x.law(), -5);
        due(x.status(), -5);
        due(x.count(10), 3);
        due(x.count(11), 2);
    }

    @Says("ORDERS, the TAPE is empty then: how many were run. -3 one can't be; -6 (as for law()).")
    static void p13Orders() {
        JoinRouter x = new JoinRouter();
        due(x.orders(), -6);
        due(x.fault(), 0);
        due(orders(x, "    "), -6);
        due(x.fault(), 4);
        due(x.count(6), 0);
        due(orders(x, "strike 0 if 1=2"), 0);
        due(x.status(), 0);
        due(orders(x, "strike 0"), -3);
        due(x.count(6), 0);
        due(x.status(), -3);
        due(orders(x, "come 0 with 0 and 0 times 20" + many(";come 0 with 0 and 0 times 20", 11)), 240);
        due(x.count(1), 240);
        due(x.count(9), 1);
        due(x.count(11), 2);
        due(x.count(6), 0);
    }

    @Says("FAULT of the latest law(), orders() that read a TEXT: its place; NONE without.")
    static void p14Fault() {
        JoinRouter x = new JoinRouter();
        due(x.fault(), NONE);
        x.row();
        due(x.fault(), NONE);
        x.law();
        due(x.fault(), 0);
        due(law(x, "bars"), 0);
        due(x.fault(), NONE);
        orders(x, "strike");
        due(x.fault(), 6);
        row(x, 1, 1, 1);
        x.force(9);
        due(x.fault(), 6);
        orders(x, "strike 9");
        due(x.fault(), NONE);
        orders(x, "strike 9 9");
        due(x.fault(), 9);
        for (int i = 0; i < 5; i++) {
            law(x, "bars");
        }
        due(x.fault(), NONE);
        orders(x, "? ");
        due(x.fault(), 0);
        // Not read: as it was.
        due(law(x, "bars ?"), -5);
        due(x.fault(), 0);
    }

    @Says("Which CLAUSE of the latest orders() could not be. NONE.")
    static void p15Stopped() {
        for (int c = 0; c < 12; c++) {
            JoinRouter x = new JoinRouter();
            due(orders(x, many("come 0 with 0 and 0;", c) + "strike 0" + many(";come 0 with 0 and 0", 11 - c)), -3);
            due(x.stopped(), c);
            due(x.count(1), 0);
        }
        JoinRouter x = new JoinRouter();
        due(x.stopped(), NONE);
        // CLAUSES that are not run are counted, times are not.
        due(orders(x, "strike 0 if 1=2; come 0 with 0 and 0 times 20; strike 0 times 3; strike 1"), -3);
        due(x.stopped(), 2);
        due(x.strike(0), -2);
        law(x, "bars");
        due(x.stopped(), 2);
        due(orders(x, "come 0 with 0 and 0"), 1);
        due(x.stopped(), NONE);
        due(orders(x, "window 0 to 5 times 2"), -3);
        due(x.stopped(), 0);
        due(orders(x, "window"), -6);
        due(x.stopped(), NONE);
    }

    @Says("A LAW is in FORCE (NONE: none): which was. -2. It leaves what can be undone.")
    static void p16Force() {
        JoinRouter x = new JoinRouter();
        due(x.force(0), -2);
        due(x.force(NONE), NONE);
        due(x.status(), 0);
        x.come(0, 0, 0);
        law(x, "bars if a=0");
        law(x, "bars if a=1");
        for (int law : new int[] {-2, 2, 6, LEAST, MOST}) {
            due(x.force(law), -2);
            due(x.status(), -2);
        }
        due(x.count(12), NONE);
        due(x.force(0), NONE);
        due(x.come(0, 0, 0), -3);
        due(x.force(0), 0);
        due(x.force(1), 0);
        due(x.come(0, 1, 0), -3);
        due(x.come(0, 0, 0), 1);
        due(x.force(7), -2);
        due(x.count(12), 1);
        due(x.force(NONE), 1);
        due(x.come(0, 1, 0), 1);
        due(x.undo(), 0);
        due(x.undo(), 0);
        due(x.count(12), NONE);
        due(x.count(8), 7);
    }

    // ---- 17 to 24

    @Says("To COME: how many RESULTS. -1; -3 (BARRED; STAMP 999); -5 (given up).")
    static void p17Come() {
        JoinRouter x = new JoinRouter();
        due(x.come(0, 0, 0), 1);
        x.window(1, 9);
        for (int i = 0; i < 9; i++) {
            x.come(1, 7, i);
        }
        x.join(0, 0, 1, 0);
        due(x.come(0, 6, 0), 0);
        due(x.come(0, 7, 0), 9);
        x.filter(1, 1, 0, 5);
        due(x.come(0, 7, 0), 5);
        due(x.count(2), 24);
        x.terms(0, 5);
        due(x.come(0, 7, 0), -5);
        due(x.count(2), 24);
        law(x, "bars");
        x.force(0);
        due(x.come(0, 7, 0), -3);
        due(x.come(0, 7, -1), -1);
        due(x.count(7), 1);
        due(x.count(9), 1);
        due(x.count(10), 1);
        due(x.count(1), 13);
    }

    @Says("To STRIKE: how many OPERATORS then. -2.")
    static void p18Strike() {
        JoinRouter x = new JoinRouter();
        for (int o : new int[] {0, -1, 4, LEAST, MOST}) {
            due(x.strike(o), -2);
        }
        for (int n = 1; n <= 4; n++) {
            for (int o = 0; o < n; o++) {
                x.filter(o % 3, 0, 0, o);
            }
            due(x.strike(n), -2);
            due(x.strike(-1), -2);
            for (int left = n - 1; left >= 0; left--) {
                due(x.strike(left), left);
                due(x.strike(left), -2);
            }
        }
        due(x.count(0), 0);
    }

    @Says("Another WINDOW: how many TUPLES went. -1; -3 it is so.")
    static void p19Window() {
        JoinRouter x = new JoinRouter();
        due(x.window(0, 4), -3);
        due(x.window(0, 5), 0);
        due(x.window(0, 5), -3);
        due(x.window(0, 4), 0);
        comeAll(x, 0, 1, 1, 1, 1, 1, 1, 1, 1, 1, 1);
        due(x.window(0, 9), 0);
        due(x.window(0, 4), 0);
        due(x.window(0, 3), 1);
        due(x.window(0, 1), 2);
        due(x.window(0, 1), -3);
        due(x.window(1, 1), 0);
        due(x.undo(), 3);
        due(x.undo(), 3);
        due(x.relation(0, 2), 3);
        due(x.undo(), 3);
        due(x.relation(0, 2), 4);
        due(x.tuple(0, 0, 2), 2);
    }

    @Says("Another INDEX: what it was. -1; -3 it is so.")
    static void p20Index() {
        for (int from = 0; from <= 2; from++) {
            for (int to = -1; to <= 3; to++) {
                JoinRouter x = new JoinRouter();
                if (from != 2) {
                    x.index(1, from);
                }
                due(x.index(1, to), to < 0 || to > 2 ? -1 : to == from ? -3 : from);
                due(x.relation(1, 1), to < 0 || to > 2 ? from : to);
                due(x.relation(0, 1), 2);
                due(x.relation(2, 1), 2);
            }
        }
    }

    @Says("(16 are kept)")
    static void p21UndoOfSixteen() {
        // Acts of all kinds, more than are kept: the latest sixteen go back, one by one.
        for (int acts = 14; acts <= 40; acts++) {
            JoinRouter x = new JoinRouter();
            long[] was = new long[acts + 1];
            int[] kind = new int[acts];
            for (int i = 0; i < acts; i++) {
                was[i] = shortly(x);
                kind[i] = new int[] {0, 3, 4, 0, 1, 2, 0, 1, 2, 4}[i % 10];
                act(x, kind[i], i);
            }
            due(x.count(5), Math.min(16, acts));
            for (int i = acts - 1; i >= Math.max(0, acts - 16); i--) {
                due(x.undo(), kind[i]);
                due(shortly(x), was[i]);
                due(x.status(), 0);
            }
            due(x.count(5), 0);
            due(x.undo(), -3);
            due(shortly(x), was[Math.max(0, acts - 16)]);
        }
    }

    private static void act(JoinRouter x, int kind, int i) {
        if (kind == 0) {
            due(x.come(i % 3, i % 10, i % 7) >= 0);
        } else if (kind == 1) {
            due(i % 2 == 0 ? x.filter(0, 0, 0, i % 10) : x.join(0, 0, 1, 1), 0);
        } else if (kind == 2) {
            due(x.strike(0), 0);
        } else if (kind == 3) {
            due(x.window(0, x.relation(0, 0) == 2 ? 3 : 2) >= 0);
        } else {
            due(x.index(1, (x.relation(1, 1) + 1) % 3) >= 0);
        }
    }

    private static long shortly(JoinRouter x) {
        long all = 0;
        int[] parts = {x.count(0), x.count(1), x.count(2), x.relation(0, 0), x.relation(0, 2), x.relation(1, 1), x.relation(1, 2), x.operator(0, 5), x.tuple(0, 0, 2)};
        for (int part : parts) {
            all = all * 1009 + part + 2;
        }
        return all;
    }

    @Says("(16 are kept)")
    static void p21UndoAndOn() {
        JoinRouter x = new JoinRouter();
        for (int i = 0; i < 30; i++) {
            x.come(0, i % 10, 0);
        }
        for (int round = 0; round < 5; round++) {
            for (int i = 0; i < 10; i++) {
                due(x.undo(), 0);
            }
            due(x.count(5), 6);
            due(x.count(1), 20);
            due(x.tuple(0, 3, 2), 20);
            for (int i = 0; i < 10; i++) {
                x.come(0, i, 1);
            }
            due(x.count(5), 16);
        }
        for (int i = 0; i < 16; i++) {
            due(x.undo(), 0);
        }
        due(x.count(1), 14);
        due(x.undo(), -3);
        x.window(0, 9);
        due(x.count(5), 1);
        due(x.undo(), 3);
    }

    @Says("The latest come() (told as 0), join(), filter() (1), strike() (2), window() (3), index() (4), by ORDERS, too (16 are kept), is undone")
    static void p21UndoOfOrders() {
        JoinRouter x = new JoinRouter();
        x.filter(0, 0, 0, 9);
        x.join(0, 0, 1, 0);
        due(orders(x, "come 0 with 1 and 1 times 13; window 0 to 1; index 0 to 0; strike 1; come 2 with 2 and 2"), 17);
        due(x.count(5), 16);
        int[] kinds = {0, 2, 4, 3, 0, 0, 0, 0, 0, 0, 0, 0, 0, 0, 0, 0};
        for (int i = 0; i < 16; i++) {
            due(x.undo(), kinds[i]);
        }
        due(x.undo(), -3);
        due(x.count(1), 1);
        due(x.count(0), 2);
        due(x.relation(0, 0), 4);
        due(x.relation(0, 1), 2);
        // Each time of a CLAUSE is an act; one not run is none.
        due(orders(x, "window 1 to done+5 times 3; strike 0 if 1=2"), 3);
        due(x.undo(), 3);
        due(x.relation(1, 0), 6);
    }

    @Says("(STATES, WINDOWS, INDICES, OPERATORS, TICKETS, how many RESULTS there were, the STAMP are as they were)")
    static void p21WhatIsAsItWas() {
        JoinRouter x = new JoinRouter();
        x.join(0, 0, 1, 0);
        x.come(1, 3, 3);
        x.come(0, 3, 3);
        Map<String, Long> then = photo(x);
        Call[] calls = {y -> y.come(0, 3, 4), y -> y.filter(2, 0, 0, 1), y -> y.join(1, 0, 2, 0), y -> y.strike(0), y -> y.window(0, 1), y -> y.index(0, 1)};
        int[] kinds = {0, 1, 1, 2, 3, 4};
        for (int i = 0; i < calls.length; i++) {
            JoinRouter y = new JoinRouter();
            y.join(0, 0, 1, 0);
            y.come(1, 3, 3);
            y.come(0, 3, 3);
            due(calls[i].on(y) >= 0);
            Map<String, Long> want = photo(y);
            due(y.undo(), kinds[i]);
            Map<String, Long> got = photo(y);
            due(got.size(), then.size());
            // RESULTS of the latest come(), what was SHUT in it stay.
            for (Map.Entry<String, Long> e : then.entrySet()) {
                boolean isLatest = e.getKey().matches("count\\(1[67]\\)|deepest.*|result.*|shut.*");
                due(e.getKey(), got.get(e.getKey()), isLatest ? want.get(e.getKey()) : e.getValue());
            }
        }
    }

    @Says("-3 there is none (nothing that was ahead of a row(), back() that was not REFUSED can be undone).")
    static void p21NothingAhead() {
        JoinRouter x = new JoinRouter();
        due(x.undo(), -3);
        due(x.status(), -3);
        x.come(0, 0, 0);
        due(x.row(), -6);
        due(x.back(0), -2);
        due(x.back(2), -1);
        due(x.count(5), 1);
        x.image(0);
        due(x.count(5), 1);
        due(x.undo(), 0);
        x.come(0, 0, 0);
        due(row(x, 7, 7, 7), 0);
        due(x.count(5), 0);
        due(x.undo(), -3);
        x.come(0, 0, 0);
        due(x.count(5), 1);
        due(x.back(0), 0);
        due(x.count(5), 0);
        due(x.undo(), -3);
        due(x.count(1), 1);
        x.come(0, 0, 0);
        due(x.undo(), 0);
        due(x.undo(), -3);
        due(row(x, 1, 1, 1), 1);
        due(x.undo(), -3);
        due(x.count(1), 2);
    }

    @Says("by the order in which they came out (99 are kept), the STAMP of the TUPLE of a RELATION. NONE (none of that RELATION; not so many).")
    static void p22Result() {
        JoinRouter x = new JoinRouter();
        for (int i = -1; i <= 1; i++) {
            due(x.result(i, 0), NONE);
        }
        x.window(1, 9);
        x.window(2, 9);
        for (int i = 0; i < 9; i++) {
            x.come(1, 5, 5);
        }
        for (int i = 0; i < 9; i++) {
            x.come(2, 5, 5);
        }
        x.join(0, 0, 1, 0);
        x.join(1, 1, 2, 1);
        // As many as there can be: all are kept.
        due(x.come(0, 5, 5), 81);
        due(x.count(16), 81);
        for (int i = 0; i < 81; i++) {
            due(x.result(i, 0), 19);
            due(x.result(i, 1), 1 + i / 9);
            due(x.result(i, 2), 10 + i % 9);
        }
        for (int i : new int[] {-1, 81, 82, 98, 99, 100, LEAST, MOST}) {
            due(x.result(i, 0), NONE);
        }
        for (int r : new int[] {-1, 3, LEAST, MOST}) {
            due(x.result(0, r), NONE);
        }
    }

    @Says("Of the i-th RESULT of the latest TUPLE that COMES by come() and is not REFUSED")
    static void p22ResultOfTheLatest() {
        JoinRouter x = new JoinRouter();
        x.come(1, 4, 4);
        due(x.result(0, 1), 1);
        due(x.result(0, 0), NONE);
        due(x.result(0, 2), NONE);
        due(x.come(3, 0, 0), -1);
        due(x.result(0, 1), 1);
        law(x, "bars; costs 9");
        x.force(0);
        due(x.come(0, 0, 0), -3);
        due(x.result(0, 1), 1);
        due(row(x, 0, 0, 0), 0);
        x.force(NONE);
        due(row(x, 0, 0, 0), 1);
        due(orders(x, "come 2 with 0 and 0"), 1);
        x.days(1, 9);
        x.brings(0, 0, 0, 0);
        x.undo();
        due(x.result(0, 1), 1);
        due(x.result(0, 0), NONE);
        due(x.count(16), 1);
        x.join(0, 0, 1, 0);
        x.terms(0, 1);
        x.come(1, 0, 0);
        due(x.come(0, 4, 4), -5);
        due(x.count(16), 1);
        due(x.result(0, 0), 2);
        due(x.result(0, 1), 3);
        x.terms(0, 999);
        due(x.come(0, 9, 9), 0);
        due(x.count(16), 0);
        due(x.result(0, 0), NONE);
        due(x.result(0, 1), NONE);
    }

    @Says("The RELATION of the i-th STATE that was SHUT in the latest call of come() that was not REFUSED by -1, -3 (99 are kept). NONE.")
    static void p23Shut() {
        JoinRouter x = new JoinRouter();
        x.join(0, 0, 1, 0);
        x.join(1, 1, 2, 0);
        x.window(1, 9);
        for (int i = 0; i < 9; i++) {
            x.come(1, 0, i);
        }
        due(x.come(0, 0, 0), 0);
        // As many as there can be: that of 2 for each of nine, then that of 1.
        due(x.count(17), 10);
        for (int i = 0; i < 10; i++) {
            due(x.shut(i), i < 9 ? 2 : 1);
        }
        for (int i : new int[] {-1, 10, 11, 98, 99, 100, LEAST, MOST}) {
            due(x.shut(i), NONE);
        }
        due(x.come(0, 0, 10), -1);
        due(x.count(17), 10);
        law(x, "bars");
        x.force(0);
        due(x.come(0, 0, 0), -3);
        due(x.count(17), 10);
        due(x.deepest(), 2);
        x.force(NONE);
        due(orders(x, "come 0 with 5 and 5"), 1);
        due(row(x, 0, 5, 5), 1);
        due(x.count(17), 10);
        x.terms(0, 8);
        due(x.come(0, 0, 0), -5);
        due(x.count(17), 0);
        due(x.shut(0), NONE);
        due(x.deepest(), 0);
        x.terms(0, 999);
        due(x.come(0, 5, 5), 0);
        due(x.count(17), 1);
        due(x.shut(0), 1);
        due(x.shut(1), NONE);
    }

    @Says("How many STATES stood open at once at most in that.")
    static void p24Deepest() {
        JoinRouter x = new JoinRouter();
        due(x.deepest(), 0);
        x.come(0, 0, 0);
        due(x.deepest(), 0);
        x.join(0, 0, 1, 0);
        x.come(0, 0, 0);
        due(x.deepest(), 1);
        x.come(1, 1, 1);
        x.join(1, 1, 2, 1);
        x.come(0, 1, 1);
        due(x.deepest(), 2);
        due(x.come(5, 5, 5), -1);
        due(x.deepest(), 2);
        x.undo();
        due(x.deepest(), 2);
        // No TUPLE to go on with: the second one is never opened.
        x.come(0, 9, 9);
        due(x.deepest(), 1);
        x.terms(0, 1);
        x.come(1, 9, 9);
        due(x.deepest() >= 0);
    }

    // ---- 25 to 34

    @Says("BRINGS: how many RESULTS (what 0), what it would COST (1). NONE.")
    static void p25Brings() {
        JoinRouter x = new JoinRouter();
        x.window(1, 9);
        for (int i = 0; i < 9; i++) {
            x.come(1, 5, 5);
        }
        x.join(0, 0, 1, 0);
        for (int what = -1; what <= 2; what++) {
            due(x.brings(0, 5, 5, what), what == 0 ? 9 : what == 1 ? 9 : NONE);
            due(x.brings(0, 6, 5, what), what == 0 ? 0 : what == 1 ? 9 : NONE);
            due(x.brings(2, 6, 5, what), what == 0 ? 0 : what == 1 ? 0 : NONE);
        }
        due(x.brings(0, 5, 5, LEAST), NONE);
        due(x.brings(0, 5, 5, MOST), NONE);
        due(x.status(), 0);
        due(x.operator(0, 5), 0);
    }

    @Says("The CHEAPEST order: what it would COST (i NONE), its i-th OPERATOR. NONE.")
    static void p26Cheapest() {
        for (int n = 0; n <= 4; n++) {
            JoinRouter x = new JoinRouter();
            for (int o = 0; o < n; o++) {
                x.filter(0, 0, 0, 9);
            }
            due(x.cheapest(0, 0, 0, NONE), n);
            for (int i = 0; i <= 5; i++) {
                due(x.cheapest(0, 0, 0, i), i < n ? i : NONE);
            }
            for (int i : new int[] {-2, LEAST, MOST}) {
                due(x.cheapest(0, 0, 0, i), NONE);
            }
            due(x.cheapest(3, 0, 0, NONE), NONE);
            due(x.cheapest(-1, 0, 0, 0), NONE);
            due(x.cheapest(0, 10, 0, 0), NONE);
            due(x.cheapest(0, 0, -1, 0), NONE);
        }
        // A tie of what it COSTS: the first as a row, whatever TICKETS.
        JoinRouter x = new JoinRouter();
        x.filter(0, 0, 0, 9);
        x.filter(0, 1, 1, 9);
        x.filter(0, 1, 1, 9);
        x.come(0, 0, 0);
        x.come(0, 0, 0);
        due(x.cheapest(0, 0, 0, NONE), 1);
        due(x.cheapest(0, 0, 0, 0), 1);
        due(x.cheapest(0, 0, 0, 1), 0);
        due(x.cheapest(0, 0, 0, 2), 2);
    }

    @Says("REGRET (-1, too). NONE (as for brings()).")
    static void p27Regret() {
        JoinRouter y = new JoinRouter();
        comeAll(y, 2, 0, 5, 0, 5);
        comeAll(y, 1, 0, 1, 0, 1, 1, 0);
        y.join(0, 1, 2, 1);
        y.join(0, 0, 1, 0);
        y.join(2, 0, 1, 1);
        law(y, "costs 0; costs 1 if op=1 and (marks=0 or marks=1 and tickets<0); costs 1 if op=2 and marks=1 and tickets=0");
        y.force(0);
        due(y.regret(0, 0, 5), -1);
        due(y.brings(0, 0, 5, 1) - y.cheapest(0, 0, 5, NONE), -1);
        due(y.status(), 0);
        due(y.count(7), 0);
        due(y.regret(3, 0, 5), NONE);
        due(y.regret(0, 10, 5), NONE);
        due(y.regret(0, 0, -1), NONE);
    }

    @Says("The BEST INDEX of a RELATION for a TUPLE of one. NONE.")
    static void p28BestIndex() {
        JoinRouter x = new JoinRouter();
        x.join(0, 0, 1, 1);
        x.come(1, 0, 0);
        for (int of = -1; of <= 3; of++) {
            for (int r = -1; r <= 3; r++) {
                boolean there = of >= 0 && of <= 2 && r >= 0 && r <= 2;
                due(x.bestIndex(of, r, 1, 0), !there ? NONE : of == 1 && r == 0 ? 1 : 0);
            }
        }
        due(x.bestIndex(1, 0, 10, 0), NONE);
        due(x.bestIndex(1, 0, 0, 10), NONE);
        due(x.bestIndex(1, 0, -1, 0), NONE);
        due(x.bestIndex(1, 0, 0, -1), NONE);
        due(x.relation(1, 1), 2);
    }

    @Says("SEEN: how often there was. -1 (FACT, n 0 .. 9); -5. It leaves what can be undone.")
    static void p29Seen() {
        for (int fact = -1; fact <= 3; fact++) {
            for (int n = -1; n <= 10; n++) {
                JoinRouter x = new JoinRouter();
                x.come(0, 0, 0);
                boolean isFine = fact >= 0 && fact <= 2 && n >= 0 && n <= 9;
                due(x.seen(fact, n), isFine ? 1 : -1);
                due(x.status(), isFine ? 0 : -1);
                due(x.count(3), isFine ? 1 : 0);
                due(x.count(5), 1);
                due(x.undo(), 0);
                due(x.count(3), isFine ? 1 : 0);
            }
        }
    }

    @Says("SEEN is nothing then: how often there was.")
    static void p30Forget() {
        JoinRouter x = new JoinRouter();
        due(x.forget(), 0);
        x.come(0, 1, 1);
        x.seen(1, 2);
        due(x.canBe(NONE), 0);
        due(x.seen(9, 9), -1);
        due(x.forget(), 1);
        due(x.status(), -1);
        due(x.canBe(NONE), 1);
        for (int i = 0; i < 7; i++) {
            x.seen(0, 0);
        }
        due(x.forget(), 6);
        due(x.forget(), 0);
        due(x.seen(0, 0), 1);
        due(x.undo(), 0);
    }

    @Says("IT CAN BE: how many (i NONE), the STAMP of the i-th, by RELATIONS, then by STAMPS. NONE.")
    static void p31CanBe() {
        JoinRouter x = new JoinRouter();
        for (int i = -2; i <= 1; i++) {
            due(x.canBe(i), i == NONE ? 0 : NONE);
        }
        for (int r = 0; r < 3; r++) {
            x.window(r, 9);
        }
        for (int i = 0; i < 27; i++) {
            x.come(2 - i % 3, 0, 0);
        }
        due(x.canBe(NONE), 27);
        for (int i = 0; i < 27; i++) {
            due(x.canBe(i), i % 9 * 3 + 3 - i / 9);
        }
        for (int i : new int[] {-2, 27, 28, LEAST, MOST}) {
            due(x.canBe(i), NONE);
        }
        x.seen(0, 9);
        due(x.canBe(NONE), 0);
        due(x.canBe(0), NONE);
    }

    @Says("To ASK: the FACT (what 0), how many TUPLES are left at most (1). NONE (it can be none).")
    static void p32Ask() {
        JoinRouter x = new JoinRouter();
        for (int what = -1; what <= 2; what++) {
            due(x.ask(what), NONE);
        }
        x.come(2, 7, 7);
        for (int what = -1; what <= 2; what++) {
            due(x.ask(what), what == 0 ? 0 : what == 1 ? 1 : NONE);
        }
        due(x.ask(LEAST), NONE);
        due(x.ask(MOST), NONE);
        x.come(2, 7, 8);
        due(x.ask(0), 2);
        due(x.ask(1), 1);
        x.seen(2, 9);
        due(x.ask(0), NONE);
        due(x.ask(1), NONE);
        x.forget();
        x.seen(2, 8);
        due(x.ask(0), 0);
        due(x.ask(1), 1);
    }

    @Says("FEW, k 1 .. 20, n 0 .. 99. NONE.")
    static void p33Few() {
        JoinRouter x = new JoinRouter();
        for (int k : new int[] {0, -1, 21, LEAST, MOST}) {
            due(x.few(k, 0), NONE);
            due(x.few(k, 99), NONE);
        }
        for (int n : new int[] {-1, 100, LEAST, MOST}) {
            due(x.few(1, n), NONE);
            due(x.few(20, n), NONE);
        }
        due(x.few(1, 0), 1000000000000L);
        due(x.few(20, 0), 1000000000000L);
        due(x.few(1, 1), 900000000000L);
        due(x.few(2, 1), 1000000000000L);
        due(x.few(1, 99) > 0);
        due(x.few(20, 99) > x.few(19, 99));
        x.terms(1, 0);
        due(x.few(1, 99), 1000000000000L);
        x.terms(1, 10);
        due(x.few(1, 1), 0);
        due(x.few(1, 0), 1000000000000L);
        for (int n = 0; n <= 21; n++) {
            due(x.few(20, n), n < 20 ? 1000000000000L : 0);
        }
        due(x.status(), 0);
    }

    @Says("COMPARED. NONE (no such LAW; as for brings()).")
    static void p34Compare() {
        JoinRouter x = new JoinRouter();
        x.filter(0, 0, 0, 9);
        for (int n = 0; n <= 6; n++) {
            for (int law = -2; law <= 7; law++) {
                due(x.compare(law, 0, 0, 0), law == NONE ? 1 : law >= 0 && law < n ? 10 + law : NONE);
            }
            law(x, "costs 1" + n);
        }
        due(x.compare(LEAST, 0, 0, 0), NONE);
        due(x.compare(MOST, 0, 0, 0), NONE);
        due(x.compare(0, -1, 0, 0), NONE);
        due(x.compare(0, 3, 0, 0), NONE);
        due(x.compare(0, 0, 10, 0), NONE);
        due(x.compare(0, 0, 0, 10), NONE);
        due(x.compare(0, 1, 0, 0), 0);
        due(x.count(12), NONE);
    }

    // ---- 35 to 40

    @Says("DAYS, kept as the latest: how many RESULTS there were in them. -1.")
    static void p35Days() {
        JoinRouter x = new JoinRouter();
        x.come(0, 0, 0);
        x.come(0, 0, 0);
        due(x.count(2), 2);
        // RESULTS of before are not counted.
        due(x.days(895, 1), 1);
        due(x.drawn(0, 1), 2);
        due(x.drawn(2, 1), 1);
        due(x.days(896, 1), 1);
        due(x.drawn(0, 1), 3);
        due(x.drawn(2, 1), 0);
        due(x.days(896, 61), -1);
        due(x.drawn(0, 1), 3);
        due(x.count(2), 2);
        due(x.count(5), 2);
        due(x.count(16), 1);
    }

    @Says("Behind the latest DAYS of OPERATOR k TICKETS (what 0), of RELATION k how many TUPLES its STATE has (1). NOTHING.")
    static void p36Drawn() {
        JoinRouter x = new JoinRouter();
        x.filter(2, 0, 1, 9);
        x.filter(0, 0, 1, 9);
        for (int k = -1; k <= 4; k++) {
            for (int what = -1; what <= 2; what++) {
                due(x.drawn(k, what), NOTHING);
            }
        }
        due(x.days(895, 1), 0);
        for (int k = -1; k <= 4; k++) {
            due(x.drawn(k, 0), k == 0 ? 1 : k == 1 ? 0 : NOTHING);
            due(x.drawn(k, 1), k == 2 ? 1 : k == 0 || k == 1 ? 0 : NOTHING);
            due(x.drawn(k, -1), NOTHING);
            due(x.drawn(k, 2), NOTHING);
        }
        for (int far : new int[] {LEAST, MOST}) {
            due(x.drawn(far, 0), NOTHING);
            due(x.drawn(far, 1), NOTHING);
            due(x.drawn(0, far), NOTHING);
        }
        // OPERATORS as they were at the DAYS, whatever is told and struck behind them.
        x.strike(1);
        x.strike(0);
        due(x.drawn(1, 0), 0);
        due(x.drawn(0, 0), 1);
        due(x.days(895, 1), 1);
        due(x.drawn(0, 0), NOTHING);
        x.filter(2, 0, 1, 9);
        due(x.drawn(0, 0), NOTHING);
    }

    @Says("IMAGE k is kept: 0; -1.")
    static void p37Image() {
        JoinRouter x = new JoinRouter();
        for (int k : new int[] {-1, 2, LEAST, MOST}) {
            due(x.image(k), -1);
            due(x.status(), -1);
        }
        due(x.back(0), -2);
        due(x.image(1), 0);
        due(x.status(), 0);
        due(x.back(0), -2);
        due(x.back(1), 0);
        x.come(0, 0, 0);
        due(x.image(0), 0);
        due(x.count(5), 1);
        x.come(0, 0, 0);
        // Kept again in its place; the other one stays.
        due(x.image(0), 0);
        due(x.back(1), 0);
        due(x.count(1), 0);
        due(x.back(0), 0);
        due(x.count(1), 2);
    }

    @Says("BACK to IMAGE k: 0. -1; -2 it was not kept.")
    static void p38Back() {
        JoinRouter x = new JoinRouter();
        due(x.back(-1), -1);
        due(x.back(2), -1);
        due(x.back(0), -2);
        due(x.back(1), -2);
        x.image(0);
        due(x.back(1), -2);
        for (int i = 0; i < 3; i++) {
            x.come(0, i, i);
            due(x.back(0), 0);
            due(x.count(1), 0);
            due(x.relation(0, 2), 0);
            due(x.status(), 0);
        }
        due(x.count(7), 2);
        due(x.count(8), 3);
    }

    @Says("BACK to IMAGE k: 0. -1; -2 it was not kept.")
    static void p38BackToLaws() {
        JoinRouter x = new JoinRouter();
        x.filter(0, 0, 0, 9);
        x.image(0);
        for (int i = 0; i < 6; i++) {
            law(x, "costs 1" + i);
        }
        x.force(5);
        x.image(1);
        due(x.back(0), 0);
        due(x.count(4), 0);
        due(x.count(12), NONE);
        due(x.force(0), -2);
        due(x.compare(0, 0, 0, 0), NONE);
        for (int i = 0; i < 6; i++) {
            due(law(x, "costs 2" + i), i);
        }
        x.force(4);
        due(x.brings(0, 0, 0, 1), 24);
        due(x.back(1), 0);
        due(x.count(12), 5);
        due(x.brings(0, 0, 0, 1), 15);
        for (int i = 0; i < 6; i++) {
            due(x.compare(i, 0, 0, 0), 10 + i);
        }
    }

    @Says("7 .. 11 how many calls were REFUSED by -1, -2, -3, -5, -6 (IMAGES do not keep that)")
    static void p39CountOfRefusals() {
        JoinRouter x = new JoinRouter();
        x.image(0);
        Call[] calls = {y -> y.come(3, 0, 0), y -> y.strike(0), y -> y.undo(), y -> y.seen(0, 0), y -> y.row()};
        int[] by = {-1, -2, -3, -5, -6};
        for (int i = 0; i < 6; i++) {
            x.seen(0, 0);
        }
        for (int way = 0; way < 5; way++) {
            for (int n = 1; n <= way + 1; n++) {
                due(calls[way].on(x), by[way]);
                due(x.count(7 + way), n);
            }
        }
        // What is not REFUSED is not counted, whatever NONE it tells.
        x.feed(0, 0, 0, 0, 0);
        x.end(99);
        x.brings(9, 9, 9, 9);
        x.few(0, 0);
        x.count(99);
        x.row();
        x.force(NONE);
        due(x.back(0), 0);
        for (int way = 0; way < 5; way++) {
            due(x.count(7 + way), way + 1);
        }
        due(x.count(3), 0);
    }

    @Says("16 how many RESULTS the latest come() that was not REFUSED had, 17 how many STATES were SHUT in the latest that was not REFUSED by -1, -3. NONE for others.")
    static void p39CountBeside() {
        JoinRouter x = new JoinRouter();
        for (int what : new int[] {-1, 18, 19, -1000, LEAST, MOST}) {
            due(x.count(what), NONE);
        }
        due(x.count(16), 0);
        due(x.count(17), 0);
        x.come(1, 5, 5);
        due(x.count(16), 1);
        x.join(0, 0, 1, 0);
        x.join(1, 1, 2, 1);
        x.terms(0, 1);
        x.come(2, 7, 5);
        due(x.count(16), 0);
        due(x.count(17), 2);
        x.terms(0, 999);
        due(x.come(0, 5, 5), 1);
        due(x.count(16), 1);
        due(x.count(17), 2);
        x.terms(0, 1);
        due(x.come(0, 5, 5), -5);
        due(x.count(16), 1);
        due(x.count(17), 1);
        due(x.come(0, 5, 10), -1);
        due(x.count(17), 1);
    }

    @Says("0 OPERATORS, 1 the STAMP of the latest TUPLE (0: none), 2 how many RESULTS there were ever, 3 SEEN, 4 LAWS, 5 how many can be undone, 6 bytes of the TAPE")
    static void p39CountOfWhatThereIs() {
        JoinRouter x = new JoinRouter();
        int[] n = new int[7];
        for (int i = 0; i < 6; i++) {
            if (i < 4) {
                x.filter(0, 0, 0, 9);
                n[0]++;
                n[5]++;
            }
            x.come(0, i, 0);
            n[1]++;
            n[2]++;
            n[5]++;
            x.seen(0, 0);
            n[3]++;
            law(x, "costs 1");
            n[4]++;
            n[6] = 20 * i + 3;
            x.end(0);
            for (int j = 0; j <= i; j++) {
                x.feed(0, 0, 0, 0, 0);
            }
            x.end(n[6]);
            for (int what = 0; what < 7; what++) {
                due("count(" + what + ")", x.count(what), n[what]);
            }
        }
        x.undo();
        due(x.count(2), 5);
        due(x.count(5), 9);
        due(x.count(1), 5);
    }

    @Says("12 the LAW in FORCE, 13 .. 15 TERMS 0 .. 2")
    static void p39CountOfTerms() {
        JoinRouter x = new JoinRouter();
        law(x, "costs 1");
        law(x, "costs 1");
        x.force(1);
        x.terms(0, 7);
        x.terms(1, 8);
        x.terms(2, 9);
        int[] want = {1, 7, 8, 9};
        for (int i = 0; i < 4; i++) {
            due(x.count(12 + i), want[i]);
        }
    }

    @Says("`NOTHING = -1000`: What is not there, where it could be below 0.")
    static void constants() {
        due(JoinRouter.NONE, -1);
        due(JoinRouter.NOTHING, -1000);
    }

    @Says("1 the STAMP of the latest TUPLE (0: none)")
    static void p39CountOfStamps() {
        JoinRouter x = new JoinRouter();
        due(x.count(1), 0);
        x.come(0, 0, 0);
        due(x.count(1), 1);
        // Gone from its STATE it is the latest still.
        x.window(0, 1);
        x.come(1, 1, 1);
        due(x.count(1), 2);
        x.undo();
        due(x.count(1), 1);
        x.undo();
        x.undo();
        due(x.count(1), 0);
    }

    @Says("What the latest call of join, filter, terms, row, law, orders, force, come, strike, window, index, undo, seen, days, image, back was REFUSED by; "
            + "0 if it was not, or ahead of any.")
    static void p40Status() {
        due(new JoinRouter().status(), 0);
        Call[] refused = {x -> x.join(0, 0, 0, 0), x -> x.filter(0, 0, 0, 10), x -> x.terms(3, 0), x -> x.row(), x -> x.law(), x -> x.orders(), x -> x.force(0),
            x -> x.come(3, 0, 0), x -> x.strike(0), x -> x.window(0, 4), x -> x.index(0, 2), x -> x.undo(), x -> x.seen(3, 0), x -> x.days(-1, 0), x -> x.image(2),
            x -> x.back(0)};
        int[] by = {-1, -1, -1, -6, -6, -6, -2, -1, -2, -3, -3, -3, -1, -1, -1, -2};
        Call[] taken = {x -> x.join(0, 0, 1, 0), x -> x.filter(0, 0, 0, 9), x -> x.terms(0, 1), x -> row(x, 9), x -> law(x, "bars"), x -> orders(x, "strike 0 if 1=2"),
            x -> x.force(NONE), x -> x.come(0, 0, 0), x -> x.strike(0), x -> x.window(0, 5), x -> x.index(0, 0), x -> x.undo(), x -> x.seen(0, 0), x -> x.days(0, 1),
            x -> x.image(0), x -> x.back(1)};
        for (int i = 0; i < refused.length; i++) {
            JoinRouter x = new JoinRouter();
            due(refused[i].on(x), by[i]);
            due("refused " + i, x.status(), by[i]);
        }
        for (int i = 0; i < taken.length; i++) {
            JoinRouter x = new JoinRouter();
            x.image(1);
            x.filter(1, 0, 0, 9);
            due(x.come(9, 9, 9), -1);
            taken[i].on(x);
            due("taken " + i, x.status(), 0);
            due(x.count(7) + x.count(8) + x.count(9) + x.count(10) + x.count(11), 1);
        }
    }

    @Says("What the latest call of join, filter, terms, row, law, orders, force, come, strike, window, index, undo, seen, days, image, back was REFUSED by; "
            + "0 if it was not, or ahead of any.")
    static void p40StatusOfOthers() {
        Call[] others = {x -> x.operator(9, 9), x -> x.relation(9, 9), x -> x.tuple(9, 9, 9), x -> x.feed(0, 0, 0, 0, 0), x -> x.end(0), x -> x.end(999), x -> x.strays(),
            x -> x.fault(), x -> x.stopped(), x -> x.result(0, 0), x -> x.shut(0), x -> x.deepest(), x -> x.brings(0, 0, 0, 0), x -> x.brings(9, 0, 0, 0),
            x -> x.cheapest(0, 0, 0, NONE), x -> x.cheapest(9, 0, 0, NONE), x -> x.regret(0, 0, 0), x -> x.regret(9, 0, 0), x -> x.bestIndex(0, 0, 0, 0),
            x -> x.bestIndex(9, 0, 0, 0), x -> x.forget(), x -> x.canBe(0), x -> x.ask(0), x -> x.few(1, 1), x -> x.few(0, 0), x -> x.compare(9, 0, 0, 0),
            x -> x.drawn(0, 0), x -> x.count(0), x -> x.count(99), x -> x.status()};
        for (Call other : others) {
            JoinRouter x = new JoinRouter();
            other.on(x);
            due(x.status(), 0);
            x.strike(7);
            other.on(x);
            due(x.status(), -2);
            x.window(0, 4);
            other.on(x);
            due(x.status(), -3);
            x.image(0);
            other.on(x);
            due(x.status(), 0);
            due(x.count(7) + x.count(10) + x.count(11), 0);
        }
    }

    @Says("An object is used for at most 512 calls after it has been made")
    static void theLastCall() {
        JoinRouter x = new JoinRouter();
        x.join(0, 0, 1, 0);
        for (int i = 2; i <= 511; i++) {
            due(x.come(i % 2, 0, i % 10), i == 2 ? 0 : Math.min(4, (i - 1) / 2));
        }
        due(x.count(1), 510);
        JoinRouter y = new JoinRouter();
        for (int i = 1; i <= 511; i++) {
            due(i % 2 == 1 ? y.filter(0, 0, 0, 1) : y.strike(0), 0);
        }
        due(y.undo(), 1);
        JoinRouter z = new JoinRouter();
        for (int i = 1; i <= 511; i++) {
            due(z.strike(i), -2);
        }
        due(z.count(8), 511);
    }
}
