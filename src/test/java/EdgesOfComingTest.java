import java.util.Map;

/** Each sentence under "Terms", III and IV, that names an edge: the last that is taken, the first that is not, what is empty, what is full, what wraps around. */
public final class EdgesOfComingTest extends Check {
    private EdgesOfComingTest() {
    }

    public static void main(String[] args) {
        runAll(EdgesOfComingTest.class);
    }

    // ---- III: what COMES

    @Says("(with STAMP 999 no more come)")
    static void theLastStamp() {
        JoinRouter x = new JoinRouter();
        comeMany(x, 0, 1, 1, 997);
        due(x.come(0, 2, 2), 1);
        due(x.count(1), 998);
        due(orders(x, "come 1 with 0 and 0 times 2"), -3);
        due(x.count(1), 998);
        due(x.come(1, 3, 3), 1);
        due(x.count(1), 999);
        due(x.tuple(1, 0, 2), 999);
        due(x.come(2, 0, 0), -3);
        due(x.status(), -3);
        due(x.count(1), 999);
        due(x.relation(2, 2), 0);
        due(x.result(0, 1), 999);
        due(orders(x, "come 0 with 0 and 0"), -3);
        due(orders(x, "come 0 with 0 and 0 if stamp<999"), 0);
        due(x.undo(), 0);
        due(x.count(1), 998);
        due(row(x, 2, 0, 0, 2, 1, 1), 1);
        due(x.strays(), 1);
        due(x.tuple(2, 0, 2), 999);
        due(x.relation(2, 2), 1);
        due(x.days(3, 60), 0);
        due(x.window(0, 1), 3);
        due(x.filter(0, 0, 0, 9), 0);
    }

    @Says("An OPERATOR is OPEN to it, if it has not its MARK and has a TUPLE of the FILTER's RELATION, of one of the JOIN's RELATIONS at least.")
    static void whatIsOpen() {
        // By its TICKETS one sees whether the OPERATOR took it.
        for (int of = 0; of < 3; of++) {
            for (int r = 0; r < 3; r++) {
                JoinRouter x = new JoinRouter();
                x.filter(of, 0, 1, 9);
                x.come(r, 0, 0);
                due(x.operator(0, 5), r == of ? 1 : 0);
                JoinRouter y = new JoinRouter();
                y.join(of, 0, (of + 1) % 3, 0);
                y.come(r, 0, 0);
                due(y.operator(0, 5), r == of || r == (of + 1) % 3 ? 1 : 0);
            }
        }
        // A TUPLE that came by a JOIN opens what could not take the first one; a MARK shuts it out.
        JoinRouter x = new JoinRouter();
        x.come(1, 5, 5);
        x.filter(1, 0, 1, 9);
        x.join(0, 0, 1, 0);
        x.join(1, 1, 2, 0);
        x.come(0, 5, 0);
        due(x.operator(0, 5), 1);
        due(x.operator(1, 5), 0);
        due(x.operator(2, 5), 0);
        due(x.count(17), 1);
    }

    @Says("if it is so, the PARTIAL has its MARK then, the OPERATOR a TICKET less, and that goes on; if not, it is lost.")
    static void soOrLost() {
        JoinRouter x = new JoinRouter();
        x.filter(0, 0, 0, 5);
        due(x.come(0, 4, 0), 1);
        due(x.operator(0, 5), 0);
        due(x.come(0, 5, 0), 0);
        due(x.operator(0, 5), 1);
        due(x.come(0, 4, 0), 1);
        due(x.operator(0, 5), 1);
        JoinRouter y = new JoinRouter();
        y.come(1, 3, 3);
        y.join(0, 0, 1, 0);
        y.join(1, 1, 0, 1);
        due(y.come(0, 3, 3), 1);
        due(y.operator(0, 5), 0);
        due(y.operator(1, 5), 0);
        due(y.come(0, 3, 4), 0);
        due(y.operator(0, 5), 0);
        due(y.operator(1, 5), 1);
        due(y.result(0, 0), NONE);
    }

    @Says("(what it COSTS is asked ahead of that)")
    static void costsAheadOfTheTicket() {
        JoinRouter x = new JoinRouter();
        x.filter(0, 0, 1, 9);
        law(x, "costs 10+tickets");
        for (int n = 0; n < 5; n++) {
            due(x.compare(0, 0, 0, 0), 10 + n);
            due(x.come(0, 0, 0), 0);
            due(x.operator(0, 5), n + 1);
        }
        // Of the second of two PARTIALS that an OPERATOR takes: as the first one left them.
        JoinRouter y = new JoinRouter();
        comeAll(y, 1, 3, 0, 3, 0);
        y.join(0, 0, 1, 0);
        y.filter(1, 1, 1, 9);
        law(y, "costs 0; costs 10+tickets if op=1");
        due(y.compare(0, 0, 3, 0), 10 + 11);
    }

    @Says("and that goes on till all that comes of it has ended; then the next one; then the STATE is shut.")
    static void oneBehindAnother() {
        JoinRouter x = new JoinRouter();
        comeAll(x, 1, 3, 5, 3, 6);
        comeAll(x, 2, 5, 0, 6, 0, 5, 0, 6, 0);
        x.join(0, 0, 1, 0);
        x.join(1, 1, 2, 0);
        due(x.come(0, 3, 0), 4);
        int[][] stamps = {{1, 3}, {1, 5}, {2, 4}, {2, 6}};
        for (int i = 0; i < 4; i++) {
            due(x.result(i, 0), 7);
            due(x.result(i, 1), stamps[i][0]);
            due(x.result(i, 2), stamps[i][1]);
        }
        int[] shut = {2, 2, 1, NONE};
        for (int i = 0; i < 4; i++) {
            due(x.shut(i), shut[i]);
        }
        due(x.deepest(), 2);
        // The TUPLE of a STATE that is shut is no more in what comes behind it.
        JoinRouter y = new JoinRouter();
        comeAll(y, 1, 3, 5, 3, 6);
        y.come(2, 6, 0);
        y.join(0, 0, 1, 0);
        y.join(1, 1, 2, 0);
        due(y.come(0, 3, 0), 1);
        due(y.count(17), 3);
        due(y.result(0, 1), 2);
        due(y.result(0, 2), 3);
    }

    @Says("A PARTIAL that has all MARKS is a RESULT")
    static void withoutOperators() {
        JoinRouter x = new JoinRouter();
        for (int r = 0; r < 3; r++) {
            due(x.brings(r, 5, 5, 0), 1);
            due(x.come(r, 5, 5), 1);
            due(x.count(16), 1);
            due(x.count(17), 0);
            due(x.deepest(), 0);
            for (int of = 0; of < 3; of++) {
                due(x.result(0, of), of == r ? r + 1 : NONE);
            }
        }
        x.filter(0, 0, 0, 9);
        due(x.come(0, 8, 0), 1);
        x.strike(0);
        due(x.come(1, 8, 0), 1);
    }

    @Says("one to which none is OPEN (and which is none) is lost.")
    static void lost() {
        JoinRouter x = new JoinRouter();
        x.filter(0, 0, 0, 9);
        due(x.come(1, 0, 0), 0);
        due(x.relation(1, 2), 1);
        due(x.operator(0, 5), 0);
        x.join(0, 0, 1, 0);
        due(x.come(2, 0, 0), 0);
        due(x.count(17), 0);
        // All MARKS but that of a FILTER of a RELATION that never joins.
        x.filter(2, 0, 0, 9);
        due(x.come(0, 0, 0), 0);
        due(x.count(17), 1);
        due(x.strike(2), 2);
        due(x.come(0, 0, 0), 1);
    }

    @Says("that with most TICKETS (the lowest of alike ones) takes it: it has a TICKET more")
    static void mostTickets() {
        for (int n = 2; n <= 4; n++) {
            for (int ahead = 0; ahead < n; ahead++) {
                JoinRouter x = new JoinRouter();
                for (int o = 0; o < n; o++) {
                    x.filter(0, 0, 1, 9);
                }
                // Alike: the lowest takes it and has one more.
                due(x.come(0, 0, 0), 0);
                due(x.operator(0, 5), 1);
                x.undo();
                // One that fails on its own is ahead by a TICKET then.
                JoinRouter y = new JoinRouter();
                for (int o = 0; o < n; o++) {
                    y.filter(o == ahead ? 1 : 0, 0, 1, 9);
                }
                y.come(1, 0, 0);
                for (int o = 0; o < n; o++) {
                    due(y.operator(o, 5), o == ahead ? 1 : 0);
                }
                int lowest = ahead == 0 ? 1 : 0;
                y.come(0, 0, 0);
                due(y.operator(lowest, 5), 1);
                due(y.operator(ahead, 5), 1);
            }
        }
    }

    @Says("that with most TICKETS (the lowest of alike ones) takes it: it has a TICKET more")
    static void mostTicketsAmongMany() {
        JoinRouter x = new JoinRouter();
        x.filter(0, 0, 1, 1);
        x.filter(0, 1, 1, 1);
        due(x.come(0, 1, 0), 0);
        // 0 takes it and lets it go, then 1 takes it and keeps the TICKET.
        due(x.operator(0, 5), 0);
        due(x.operator(1, 5), 1);
        due(x.come(0, 0, 0), 0);
        due(x.operator(0, 5), 0);
        due(x.operator(1, 5), 2);
        due(x.come(0, 0, 1), 0);
        due(x.operator(0, 5), 1);
        due(x.operator(1, 5), 2);
        due(x.come(0, 0, 1), 0);
        due(x.operator(0, 5), 2);
        due(x.operator(1, 5), 2);
        // Alike again: the lowest.
        due(x.come(0, 0, 0), 0);
        due(x.operator(0, 5), 3);
        due(x.operator(1, 5), 2);
    }

    @Says("A FILTER, or a JOIN of which both TUPLES are there, looks at 1")
    static void looksAtOne() {
        JoinRouter x = new JoinRouter();
        x.filter(0, 0, 0, 5);
        due(x.brings(0, 4, 0, 1), 1);
        due(x.brings(0, 5, 0, 1), 1);
        due(x.brings(1, 5, 0, 1), 0);
        JoinRouter y = new JoinRouter();
        comeAll(y, 1, 3, 3, 3, 4, 7, 7);
        y.join(0, 0, 1, 0);
        y.join(0, 1, 1, 1);
        // 3 are looked at, then each of two is looked at alone.
        due(y.brings(0, 3, 3, 1), 5);
        due(y.brings(0, 3, 3, 0), 1);
        due(y.come(0, 3, 3), 1);
        due(y.count(17), 1);
        due(y.result(0, 1), 1);
        due(y.operator(0, 5), -1);
        due(y.operator(1, 5), 1);
    }

    @Says("it looks at all TUPLES in it")
    static void looksAtAll() {
        for (int held = 0; held <= 9; held++) {
            JoinRouter x = new JoinRouter();
            x.window(1, 9);
            for (int i = 0; i < held; i++) {
                x.come(1, i, 0);
            }
            x.join(0, 0, 1, 0);
            due(x.brings(0, 9, 0, 1), held);
            due(x.come(0, 9, 0), 0);
            // Even an empty one is opened and shut.
            due(x.count(17), 1);
            due(x.shut(0), 1);
            due(x.deepest(), 1);
            due(x.operator(0, 5), 1);
        }
    }

    @Says("if the FIELD is its INDEX, at those alone of which that FIELD has the BUCKET of the FIELD that is there (these are how many it looks at)")
    static void looksAtABucket() {
        for (int field = 0; field <= 1; field++) {
            JoinRouter x = new JoinRouter();
            x.window(1, 9);
            for (int v = 0; v < 9; v++) {
                x.come(1, field == 0 ? v : 5, field == 1 ? v : 5);
            }
            x.join(1, field, 0, 0);
            int[] alike = {2, 3, 4, 4, 3, 2, 3, 4, 4, 3};
            due(x.index(1, 1 - field), 2);
            due(x.brings(0, 2, 0, 1), 9);
            due(x.index(1, field), 1 - field);
            for (int v = 0; v <= 9; v++) {
                due(x.brings(0, v, 0, 1), alike[v]);
                due(x.brings(0, v, 0, 0), v < 9 ? 1 : 0);
            }
            due(x.index(0, 0), 2);
            due(x.brings(0, 2, 0, 1), 4);
        }
    }

    @Says("for each TUPLE of it of which the FIELD is the same")
    static void bothFieldsOfTheOther() {
        // The JOIN asks one FIELD of the other TUPLE, a FILTER or a JOIN behind it the other one.
        for (int field = 0; field <= 1; field++) {
            for (int v = 0; v <= 9; v++) {
                JoinRouter x = new JoinRouter();
                x.come(1, field == 0 ? 3 : v, field == 1 ? 3 : v);
                x.come(2, v, v);
                x.join(0, 0, 1, field);
                x.filter(1, 1 - field, 1, v);
                due(x.brings(0, 3, 9, 0), 1);
                due(x.brings(0, 4, 9, 0), 0);
                x.strike(1);
                x.filter(1, 1 - field, 1, (v + 1) % 10);
                due(x.brings(0, 3, 9, 0), 0);
                x.strike(1);
                x.join(1, 1 - field, 2, 0);
                due(x.brings(0, 3, 9, 0), 1);
                due(x.come(0, 3, 9), 1);
                due(x.result(0, 2), 2);
            }
        }
    }

    @Says("by rising STAMPS, there is a PARTIAL with it, too, and the MARK, the OPERATOR has a TICKET less")
    static void risingStamps() {
        JoinRouter x = new JoinRouter();
        x.window(1, 3);
        comeAll(x, 1, 6, 0, 6, 1, 6, 2, 6, 3, 6, 4);
        x.join(0, 0, 1, 0);
        due(x.come(0, 6, 0), 3);
        for (int i = 0; i < 3; i++) {
            due(x.result(i, 1), 3 + i);
            due(x.result(i, 0), 6);
            due(x.result(i, 2), NONE);
        }
        due(x.result(3, 1), NONE);
        // One more for taking it, three less.
        due(x.operator(0, 5), -2);
    }

    @Says("At the end the new TUPLE is in its STATE (that of the lowest STAMP goes, if there would be more than WINDOW).")
    static void theNewOneAtTheEnd() {
        JoinRouter x = new JoinRouter();
        x.window(0, 1);
        x.join(0, 0, 1, 0);
        x.join(0, 0, 2, 0);
        x.come(0, 5, 5);
        x.come(1, 5, 5);
        // It joins with that which is there, which goes only behind it; never with itself.
        due(x.come(2, 5, 5), 1);
        due(x.come(0, 5, 6), 1);
        due(x.result(0, 0), 4);
        due(x.relation(0, 2), 1);
        due(x.tuple(0, 0, 2), 4);
        x.window(0, 2);
        x.come(0, 5, 7);
        due(x.relation(0, 2), 2);
        due(x.tuple(0, 0, 2), 4);
        x.come(0, 5, 8);
        due(x.relation(0, 2), 2);
        due(x.tuple(0, 0, 2), 5);
        due(x.tuple(0, 1, 2), 6);
        // Lost or not, it is there.
        x.come(0, 0, 0);
        due(x.count(16), 0);
        due(x.tuple(0, 1, 2), 7);
    }

    // ---- III: BUDGET

    @Says("When what all COST together would be more than BUDGET, the COMING is given up at once")
    static void budgetToTheLast() {
        for (int cost : new int[] {1, 2, 98, 99}) {
            JoinRouter x = new JoinRouter();
            x.filter(0, 0, 0, 9);
            law(x, "costs " + cost);
            x.force(0);
            if (cost > 1) {
                x.terms(0, cost - 1);
                due(x.come(0, 0, 0), -5);
            }
            x.terms(0, cost);
            due(x.come(0, 0, 0), 1);
        }
        JoinRouter x = new JoinRouter();
        x.filter(0, 0, 0, 9);
        x.filter(0, 0, 0, 9);
        x.terms(0, 1);
        due(x.come(0, 0, 0), -5);
        due(x.come(0, 9, 0), 0);
        x.terms(0, 2);
        due(x.come(0, 0, 0), 1);
        // What COSTS 0 goes on behind a BUDGET that is used up.
        law(x, "costs 0; costs 1 if marks=0");
        x.force(0);
        x.terms(0, 1);
        due(x.come(0, 0, 0), 1);
    }

    @Says("When what all COST together would be more than BUDGET, the COMING is given up at once")
    static void budgetOf999() {
        JoinRouter x = new JoinRouter();
        x.window(1, 9);
        for (int i = 0; i < 9; i++) {
            x.come(1, 5, i);
        }
        x.join(0, 0, 1, 0);
        x.filter(1, 1, 0, 9);
        x.filter(0, 1, 0, 9);
        law(x, "costs 99; costs 8+b if op=0; costs 11 if op=2");
        x.force(0);
        due(x.count(13), 999);
        // 8 and b, nine times 99, nine times 11.
        for (int b = 0; b <= 3; b++) {
            due(x.compare(0, 0, 5, b), 998 + b);
            due(x.come(0, 5, b), b <= 1 ? 9 : -5);
            due(x.count(17), 1);
            due(x.deepest(), 1);
            if (b <= 1) {
                x.undo();
            }
        }
        due(x.terms(0, 998), 999);
        due(x.come(0, 5, 1), -5);
        due(x.come(0, 5, 0), 9);
    }

    @Says("what stands open is shut, the one opened last first")
    static void shutWhenGivenUp() {
        JoinRouter x = new JoinRouter();
        x.join(0, 0, 1, 0);
        x.join(1, 1, 2, 1);
        x.filter(2, 0, 0, 9);
        x.come(1, 4, 6);
        x.come(2, 5, 6);
        // Costs 1 for each: nothing, one, two stand open when it is given up.
        int[][] shut = {{}, {1}, {2, 1}};
        law(x, "costs 5; costs 1 if marks=1; costs 3 if marks=2");
        x.force(0);
        for (int open = 0; open <= 2; open++) {
            x.terms(0, new int[] {4, 5, 8}[open]);
            due(x.come(0, 4, 4), -5);
            due(x.count(17), shut[open].length);
            due(x.deepest(), shut[open].length);
            for (int i = 0; i < 3; i++) {
                due(x.shut(i), i < shut[open].length ? shut[open][i] : NONE);
            }
            if (open == 0) {
                due(x.terms(0, 999), 4);
                due(x.brings(0, 4, 4, 1), 9);
            }
        }
        x.terms(0, 9);
        due(x.come(0, 4, 4), 1);
        due(x.count(17), 2);
    }

    @Says("what stands open is shut, the one opened last first")
    static void givenUpInTheSecondOne() {
        // The first of two goes through, its STATE is shut; the second one is given up.
        JoinRouter x = new JoinRouter();
        x.join(0, 0, 1, 0);
        x.join(1, 1, 2, 1);
        comeAll(x, 1, 4, 6, 4, 7, 4, 8);
        x.come(2, 5, 6);
        x.strike(1);
        x.join(1, 1, 2, 1);
        // 3 looked at, then 1 three times.
        due(x.brings(0, 4, 4, 1), 6);
        for (int budget = 2; budget <= 6; budget++) {
            x.terms(0, budget);
            due(x.come(0, 4, 4), budget < 6 ? -5 : 1);
            due(x.count(17), budget - 2);
            due(x.deepest(), budget < 3 ? 0 : budget == 3 ? 1 : 2);
            for (int i = 0; i < 4; i++) {
                int opened = budget - 3;
                due(x.shut(i), budget < 3 ? NONE : i < opened ? 2 : i == opened ? 1 : NONE);
            }
        }
    }

    @Says("nothing of it stays (no room), but what was SHUT and how many stood open.")
    static void nothingStays() {
        JoinRouter x = dear();
        Map<String, Long> before = photo(dear());
        due(x.come(0, 4, 4), -5);
        before.put("count(17)", 2L);
        before.put("deepest()", 2L);
        before.put("shut(0)", 2L);
        before.put("shut(1)", 1L);
        due(photo(x), before);
        due(x.status(), -5);
        JoinRouter y = dear();
        for (int i = 0; i < 8; i++) {
            due(x.undo(), y.undo());
            due(x.count(1), y.count(1));
            due(x.operator(0, 5), y.operator(0, 5));
        }
    }

    /** A TUPLE 0, 4, 4 is given up at its third OPERATOR. */
    private static JoinRouter dear() {
        JoinRouter x = new JoinRouter();
        x.come(0, 9, 9);
        x.join(0, 0, 1, 0);
        x.join(1, 1, 2, 1);
        x.filter(2, 0, 0, 9);
        x.come(1, 4, 6);
        x.come(2, 5, 6);
        x.come(2, 9, 9);
        x.terms(0, 3);
        return x;
    }

    // ---- III: OPERATORS told and struck, WINDOWS

    @Says("To TELL an OPERATOR: the next number, TICKETS 0.")
    static void toldBehindOneStruck() {
        for (int n = 0; n < 4; n++) {
            JoinRouter x = new JoinRouter();
            for (int o = 0; o <= n; o++) {
                due(x.filter(0, 0, 1, 9), o);
            }
            // The last one has TICKETS when it goes.
            for (int i = 0; i < 3; i++) {
                x.come(0, 0, 0);
            }
            due(x.operator(0, 5), 3);
            for (int o = n; o >= 0; o--) {
                x.strike(o);
            }
            due(x.filter(0, 0, 1, 9), 0);
            due(x.operator(0, 5), 0);
            due(x.join(0, 0, 1, 0), 1);
            due(x.operator(1, 5), 0);
        }
        JoinRouter x = new JoinRouter();
        x.filter(0, 0, 1, 9);
        x.filter(1, 0, 1, 9);
        x.come(1, 0, 0);
        due(x.operator(1, 5), 1);
        x.strike(0);
        due(x.filter(2, 0, 0, 0), 1);
        due(x.operator(1, 5), 0);
        due(x.operator(0, 5), 1);
    }

    @Says("To STRIKE one: those of higher numbers have one less (each with its TICKETS).")
    static void struck() {
        for (int struck = 0; struck < 4; struck++) {
            JoinRouter x = new JoinRouter();
            x.filter(0, 0, 1, 9);
            x.filter(1, 1, 0, 0);
            x.filter(2, 0, 2, 9);
            x.join(2, 1, 0, 0);
            x.come(0, 1, 1);
            comeAll(x, 1, 1, 1, 1, 1, 1, 1);
            comeAll(x, 2, 1, 1, 1, 1);
            int[][] was = new int[4][6];
            for (int o = 0; o < 4; o++) {
                for (int what = 0; what < 6; what++) {
                    was[o][what] = x.operator(o, what);
                }
            }
            due(x.strike(struck), 3);
            for (int o = 0; o < 4; o++) {
                for (int what = 0; what < 6; what++) {
                    due(x.operator(o, what), o == 3 ? NOTHING : was[o < struck ? o : o + 1][what]);
                }
            }
            due(x.undo(), 2);
            for (int o = 0; o < 4; o++) {
                for (int what = 0; what < 6; what++) {
                    due(x.operator(o, what), was[o][what]);
                }
            }
        }
    }

    @Says("Another WINDOW: if the STATE has more, those of the lowest STAMPS go.")
    static void anotherWindow() {
        for (int held = 0; held <= 9; held++) {
            for (int window = 1; window <= 8; window++) {
                JoinRouter x = new JoinRouter();
                x.window(2, 9);
                for (int i = 0; i < held; i++) {
                    x.come(2, i, 9 - i);
                }
                int left = Math.min(held, window);
                due(x.window(2, window), held - left);
                due(x.relation(2, 2), left);
                for (int i = 0; i < left; i++) {
                    due(x.tuple(2, i, 2), held - left + i + 1);
                    due(x.tuple(2, i, 0), held - left + i);
                }
                due(x.tuple(2, left, 2), NONE);
                // A wider one brings none of them back.
                due(x.window(2, 9), 0);
                due(x.relation(2, 2), left);
            }
        }
    }

    // ---- III: on paper

    @Says("(On paper, BUDGET, what is BARRED, STAMP 999 aside:)")
    static void onPaper() {
        JoinRouter x = new JoinRouter();
        comeMany(x, 0, 4, 4, 990);
        x.window(1, 9);
        for (int i = 0; i < 9; i++) {
            x.come(1, 5, 5);
        }
        due(x.count(1), 999);
        x.join(2, 0, 1, 0);
        x.filter(1, 0, 0, 9);
        x.filter(1, 1, 0, 9);
        x.filter(2, 1, 0, 9);
        law(x, "bars; costs 99");
        x.force(0);
        x.terms(0, 1);
        int all = 99 + 3 * 9 * 99;
        int best = 99 + 99 + 2 * 9 * 99;
        due(x.come(2, 5, 5), -3);
        due(x.brings(2, 5, 5, 0), 9);
        due(x.brings(2, 5, 5, 1), all);
        due(x.cheapest(2, 5, 5, NONE), best);
        due(x.regret(2, 5, 5), all - best);
        due(x.compare(0, 2, 5, 5), all);
        due(x.compare(NONE, 2, 5, 5), 9 + 27);
        due(x.bestIndex(1, 2, 5, 5), 0);
        due(x.count(1), 999);
        due(x.count(17), 0);
    }

    @Says("(On paper, BUDGET, what is BARRED, STAMP 999 aside:)")
    static void dearestOnPaper() {
        JoinRouter x = new JoinRouter();
        x.window(1, 9);
        x.window(2, 9);
        for (int i = 0; i < 9; i++) {
            x.come(1, 5, 5);
            x.come(2, 5, 5);
        }
        x.join(0, 0, 1, 0);
        x.join(0, 1, 2, 0);
        x.join(1, 1, 2, 1);
        x.filter(2, 0, 0, 9);
        law(x, "costs 99");
        x.force(0);
        due(x.brings(0, 5, 5, 0), 81);
        due(x.brings(0, 5, 5, 1), 99 * (1 + 9 + 81 + 81));
        due(x.come(0, 5, 5), -5);
    }

    @Says("BRINGS: how many RESULTS a TUPLE would have, did it come now; what that would COST.")
    static void bringsAsItComes() {
        JoinRouter x = new JoinRouter();
        x.join(0, 0, 1, 0);
        x.join(1, 1, 2, 1);
        x.filter(0, 1, 0, 5);
        law(x, "costs size+tickets+2");
        x.force(0);
        for (int i = 0; i < 40; i++) {
            int r = i % 3;
            int a = i / 3 % 2;
            int b = i * i % 7;
            int cost = x.brings(r, a, b, 1);
            int results = x.brings(r, a, b, 0);
            due(x.compare(0, r, a, b), cost);
            if (cost > 1) {
                x.terms(0, cost - 1);
                due(x.come(r, a, b), -5);
            }
            x.terms(0, Math.max(1, cost));
            due(x.come(r, a, b), results);
        }
        due(x.count(2) > 0);
    }

    @Says("(whatever TICKETS; \"tickets\" are as they would be)")
    static void cheapestWithTickets() {
        // Told apart by their TICKETS: 0 has three, 1 none.
        JoinRouter x = new JoinRouter();
        x.filter(0, 0, 1, 9);
        for (int i = 0; i < 3; i++) {
            x.come(0, 0, 0);
        }
        x.filter(0, 1, 1, 9);
        due(x.operator(0, 5), 3);
        law(x, "costs 10+tickets");
        x.force(0);
        due(x.brings(0, 0, 0, 1), 13);
        due(x.cheapest(0, 0, 0, NONE), 10);
        due(x.cheapest(0, 0, 0, 0), 1);
        due(x.cheapest(0, 0, 0, 1), 0);
        // Let through it has one less again: 13 and 10 either way, the first row.
        due(x.cheapest(0, 9, 9, NONE), 23);
        due(x.cheapest(0, 9, 9, 0), 0);
        due(x.operator(0, 5), 3);
        due(x.operator(1, 5), 0);
        // With many of them TICKETS rise from one PARTIAL to the next.
        JoinRouter y = new JoinRouter();
        comeAll(y, 1, 3, 0, 3, 0, 3, 0);
        y.join(0, 0, 1, 0);
        y.filter(1, 1, 1, 9);
        law(y, "costs 0; costs 10+tickets if op=1");
        y.force(0);
        due(y.cheapest(0, 3, 0, NONE), 10 + 11 + 12);
    }

    @Says("so that it COSTS least together; the first such as a row (without OPERATORS it COSTS 0).")
    static void cheapestRows() {
        JoinRouter none = new JoinRouter();
        due(none.cheapest(0, 0, 0, NONE), 0);
        due(none.cheapest(0, 0, 0, 0), NONE);
        // With MARKS dear or not, each order of four can be the one that is cheapest.
        for (int first = 0; first < 4; first++) {
            for (int second = 0; second < 4; second++) {
                for (int third = 0; third < 4; third++) {
                    if (first != second && first != third && second != third) {
                        cheapestRow(first, second, third);
                    }
                }
            }
        }
        JoinRouter x = new JoinRouter();
        for (int o = 0; o < 4; o++) {
            x.filter(0, 0, 0, 9);
        }
        due(x.cheapest(0, 0, 0, NONE), 4);
        for (int o = 0; o < 4; o++) {
            due(x.cheapest(0, 0, 0, o), o);
            // Of those that never take it, too.
            due(x.cheapest(1, 0, 0, o), o);
        }
        due(x.cheapest(1, 0, 0, NONE), 0);
        due(x.cheapest(0, 0, 0, 4), NONE);
        due(x.cheapest(0, 0, 0, -2), NONE);
    }

    private static void cheapestRow(int first, int second, int third) {
        JoinRouter x = new JoinRouter();
        for (int o = 0; o < 4; o++) {
            x.filter(0, 0, 0, 9);
        }
        int[] row = {first, second, third, 6 - first - second - third};
        StringBuilder text = new StringBuilder("costs 9");
        for (int i = 0; i < 4; i++) {
            text.append("; costs 1 if marks=").append(i).append(" and op=").append(row[i]);
        }
        due(law(x, text.toString()), 0);
        x.force(0);
        due(x.cheapest(0, 0, 0, NONE), 4);
        for (int i = 0; i < 4; i++) {
            due(x.cheapest(0, 0, 0, i), row[i]);
        }
    }

    @Says("REGRET: what the TUPLE would COST more as TICKETS are than by that (below 0, if less).")
    static void regretOfAllSigns() {
        JoinRouter x = new JoinRouter();
        due(x.regret(0, 0, 0), 0);
        x.filter(0, 0, 0, 9);
        x.filter(0, 1, 0, 5);
        due(x.regret(0, 0, 9), 1);
        due(x.regret(0, 0, 4), 0);
        due(x.regret(1, 0, 4), 0);
        // By TICKETS each of two PARTIALS is taken by another one, which no fixed order can do.
        JoinRouter y = new JoinRouter();
        comeAll(y, 2, 0, 5, 0, 5);
        comeAll(y, 1, 0, 1, 0, 1, 1, 0);
        y.join(0, 1, 2, 1);
        y.join(0, 0, 1, 0);
        y.join(2, 0, 1, 1);
        for (int more = 1; more <= 5; more += 4) {
            law(y, "costs 0; costs " + more + " if op=1 and (marks=0 or marks=1 and tickets<0); costs " + more + " if op=2 and marks=1 and tickets=0");
            y.force(y.count(4) - 1);
            due(y.brings(0, 0, 5, 1), 0);
            due(y.cheapest(0, 0, 5, NONE), more);
            due(y.regret(0, 0, 5), -more);
        }
        due(y.status(), 0);
    }

    @Says("The BEST INDEX of a RELATION for a TUPLE: 0, 1 or 2, with which it would COST least as TICKETS are; the lowest.")
    static void bestOfThree() {
        JoinRouter x = new JoinRouter();
        x.come(1, 5, 5);
        x.join(0, 0, 1, 1);
        // Alike all: 0. By FIELD 1 fewer: 1. By FIELD 1 dearer: 0. By both FIELDS dearer: 2.
        due(x.bestIndex(1, 0, 5, 5), 0);
        due(x.bestIndex(0, 0, 5, 5), 0);
        due(x.bestIndex(1, 0, 1, 5), 1);
        law(x, "costs 1; costs 9 if size=0");
        x.force(0);
        due(x.bestIndex(1, 0, 1, 5), 0);
        for (int index = 0; index <= 1; index++) {
            due(x.index(1, index), index == 0 ? 2 : 0);
            due(x.bestIndex(1, 0, 1, 5), 0);
            due(x.relation(1, 1), index);
        }
        x.index(1, 2);
        x.force(NONE);
        x.join(2, 0, 1, 0);
        x.strike(0);
        due(x.bestIndex(1, 2, 1, 5), 0);
        x.force(0);
        due(x.bestIndex(1, 2, 1, 5), 1);
        JoinRouter y = new JoinRouter();
        comeAll(y, 2, 0, 5, 0, 5);
        comeAll(y, 1, 0, 1, 0, 1, 1, 0);
        y.join(0, 1, 2, 1);
        y.join(0, 0, 1, 0);
        y.join(2, 0, 1, 1);
        law(y, "costs 0; costs 9 if marks=1 and size<3");
        y.force(0);
        due(y.bestIndex(1, 0, 0, 5), 2);
        due(y.relation(1, 1), 2);
    }

    @Says("IT CAN BE: TUPLES in STATES of which all that was SEEN is so.")
    static void itCanBe() {
        JoinRouter x = new JoinRouter();
        due(x.canBe(NONE), 0);
        comeAll(x, 2, 1, 9, 1, 8);
        comeAll(x, 0, 1, 9, 0, 9);
        due(x.canBe(NONE), 4);
        x.seen(1, 1);
        due(x.canBe(NONE), 3);
        x.seen(1, 1);
        due(x.canBe(NONE), 3);
        x.seen(2, 9);
        due(x.canBe(NONE), 2);
        due(x.canBe(0), 3);
        due(x.canBe(1), 1);
        x.seen(0, 2);
        due(x.canBe(NONE), 1);
        due(x.canBe(0), 1);
        x.seen(0, 0);
        due(x.canBe(NONE), 0);
        due(x.canBe(0), NONE);
        x.seen(0, 0);
        due(x.count(3), 6);
        x.forget();
        due(x.canBe(NONE), 4);
    }

    @Says("To ASK: the FACT by which of these the most that are alike are as few as can be; the lowest.")
    static void askTheLowest() {
        // By RELATION, FIELD 0, FIELD 1 so many are alike at most.
        int[][] alike = {{1, 1, 1}, {2, 1, 1}, {2, 2, 1}, {1, 2, 2}, {2, 1, 2}, {1, 1, 2}, {2, 2, 2}, {1, 2, 1}};
        int[] fact = {0, 1, 2, 0, 1, 0, 0, 0};
        for (int i = 0; i < alike.length; i++) {
            JoinRouter x = new JoinRouter();
            int[] a = alike[i];
            x.come(0, 0, 0);
            x.come(a[0] == 2 ? 0 : 1, a[1] == 2 ? 0 : 1, a[2] == 2 ? 0 : 1);
            due(x.ask(0), fact[i]);
            due(x.ask(1), Math.min(a[0], Math.min(a[1], a[2])));
        }
        JoinRouter x = new JoinRouter();
        x.filter(0, 0, 0, 9);
        x.window(2, 9);
        for (int i = 0; i < 9; i++) {
            x.come(2, i, 9);
        }
        due(x.ask(0), 1);
        due(x.ask(1), 1);
        x.seen(1, 8);
        due(x.ask(0), 0);
        due(x.ask(1), 1);
        x.come(0, 8, 9);
        due(x.ask(0), 0);
        x.forget();
        x.seen(0, 2);
        x.come(2, 9, 9);
        due(x.ask(0), 1);
    }

    @Says("each part times the rest by ten and times SLIPS by ten (one more), both cut; of those below k all together.")
    static void fewByParts() {
        for (int slips = 0; slips <= 10; slips++) {
            JoinRouter x = new JoinRouter();
            x.terms(1, slips);
            long[] parts = new long[101];
            parts[0] = 1000000000000L;
            for (int n = 0; n <= 99; n++) {
                if (n % 9 == 0 || n == 1) {
                    long below = 0;
                    for (int k = 1; k <= 20; k++) {
                        below += parts[k - 1];
                        due(x.few(k, n), below);
                    }
                }
                long[] next = new long[101];
                for (int j = 0; j <= n; j++) {
                    next[j] += parts[j] * (10 - slips) / 10;
                    next[j + 1] += parts[j] * slips / 10;
                }
                parts = next;
            }
        }
    }

    @Says("COMPARED: what a TUPLE would COST by a LAW in place of that in FORCE (NONE: none), BARRED or not.")
    static void compared() {
        JoinRouter x = new JoinRouter();
        x.filter(0, 0, 0, 9);
        due(x.compare(NONE, 0, 0, 0), 1);
        law(x, "costs 5; bars");
        law(x, "costs 6");
        for (int force = NONE; force <= 1; force++) {
            x.force(force);
            due(x.compare(NONE, 0, 0, 0), 1);
            due(x.compare(0, 0, 0, 0), 5);
            due(x.compare(1, 0, 0, 0), 6);
            due(x.compare(2, 0, 0, 0), NONE);
            due(x.compare(-2, 0, 0, 0), NONE);
            due(x.count(12), force);
        }
    }

    // ---- IV

    /** Who reckons DAYS without OPERATORS a second time: what each STATE has, how many CAME. */
    private static int[] daysByHand(int seed, int n, int[] held, int[] window, int left) {
        long s = seed;
        int came = 0;
        for (int i = 0; i < n; i++) {
            int[] d = new int[4];
            for (int j = 0; j < 4; j++) {
                s = (s * 1103 + 12345) % 1000003;
                d[j] = (int) (s % new int[] {3, 4, 4, 8}[j]);
            }
            if (d[3] == 7) {
                window[d[0]] = d[1] + 2;
            } else if (came < left) {
                came++;
                held[d[0]]++;
            }
            held[d[0]] = Math.min(held[d[0]], window[d[0]]);
        }
        return new int[] {came, held[0], held[1], held[2]};
    }

    @Says("DAYS with a SEED, n 1 .. 60, on paper: s is the SEED (0 .. 1,000,000)")
    static void daysRange() {
        for (int seed : new int[] {0, 1, 999999, 1000000}) {
            for (int n : new int[] {1, 2, 59, 60}) {
                JoinRouter x = new JoinRouter();
                int[] want = daysByHand(seed, n, new int[3], new int[] {4, 4, 4}, 999);
                due(x.days(seed, n), want[0]);
                for (int r = 0; r < 3; r++) {
                    due(x.drawn(r, 1), want[r + 1]);
                    due(x.relation(r, 2), 0);
                    due(x.relation(r, 0), 4);
                }
                due(x.count(1), 0);
                due(x.count(2), 0);
                due(x.status(), 0);
            }
        }
        JoinRouter x = new JoinRouter();
        for (int seed : new int[] {-1, 1000001, LEAST, MOST}) {
            due(x.days(seed, 1), -1);
        }
        for (int n : new int[] {0, -1, 61, LEAST, MOST}) {
            due(x.days(0, n), -1);
        }
        due(x.drawn(0, 1), NOTHING);
        due(x.count(7), 9);
    }

    @Says("a DRAW of m: s becomes (s times 1103 and 12345) modulo 1,000,003, it is s modulo m.")
    static void drawsWrapAround() {
        // 895 times 1103 and 12345 is 999530, 896 times is 1000633, which is 630: on both sides of the edge.
        for (int seed = 880; seed < 920; seed++) {
            JoinRouter x = new JoinRouter();
            int[] want = daysByHand(seed, 3, new int[3], new int[] {4, 4, 4}, 999);
            due(x.days(seed, 3), want[0]);
            for (int r = 0; r < 3; r++) {
                due(x.drawn(r, 1), want[r + 1]);
            }
        }
        for (int seed : new int[] {895, 896}) {
            JoinRouter x = new JoinRouter();
            due(x.days(seed, 1), 1);
            int relation = (seed == 895 ? 999530 : 630) % 3;
            for (int r = 0; r < 3; r++) {
                due(x.drawn(r, 1), r == relation ? 1 : 0);
            }
        }
    }

    @Says("Each time DRAWS of 3, of 4, of 4, of 8, whatever comes of them")
    static void drawsWhateverComes() {
        // BARRED ones take as many DRAWS as others.
        JoinRouter x = new JoinRouter();
        law(x, "bars if relation<2");
        x.force(0);
        int came = 0;
        long s = 31;
        for (int i = 0; i < 60; i++) {
            int[] d = new int[4];
            for (int j = 0; j < 4; j++) {
                s = (s * 1103 + 12345) % 1000003;
                d[j] = (int) (s % new int[] {3, 4, 4, 8}[j]);
            }
            came += d[3] < 7 && d[0] == 2 ? 1 : 0;
        }
        due(x.days(31, 60), came);
        due(x.drawn(0, 1), 0);
        due(x.drawn(1, 1), 0);
        due(x.drawn(2, 1) > 0);
    }

    @Says("at 0 .. 6 (the last DRAW)")
    static void theLastDraw() {
        boolean[] met = new boolean[8];
        for (int seed = 0; seed < 200; seed++) {
            long s = seed;
            int relation = 0;
            for (int j = 0; j < 4; j++) {
                s = (s * 1103 + 12345) % 1000003;
                relation = j == 0 ? (int) (s % 3) : relation;
            }
            int last = (int) (s % 8);
            JoinRouter x = new JoinRouter();
            due(x.days(seed, 1), last < 7 ? 1 : 0);
            due(x.drawn(relation, 1), last < 7 ? 1 : 0);
            met[last] = true;
        }
        for (boolean one : met) {
            due(one);
        }
    }

    @Says("a TUPLE of the RELATION of the first with FIELDS the second, the third COMES")
    static void fieldsOfDays() {
        for (int field = 0; field <= 1; field++) {
            for (int v = 0; v <= 4; v++) {
                JoinRouter x = new JoinRouter();
                law(x, "bars if " + (field == 0 ? "a=" : "b=") + v);
                x.force(0);
                int came = 0;
                long s = 4711;
                for (int i = 0; i < 60; i++) {
                    int[] d = new int[4];
                    for (int j = 0; j < 4; j++) {
                        s = (s * 1103 + 12345) % 1000003;
                        d[j] = (int) (s % new int[] {3, 4, 4, 8}[j]);
                    }
                    came += d[3] < 7 && d[1 + field] != v ? 1 : 0;
                }
                due(x.days(4711, 60), came);
            }
        }
    }

    @Says("COMES, if it can (given up, nothing stays)")
    static void daysGivenUp() {
        JoinRouter x = new JoinRouter();
        x.filter(0, 0, 1, 9);
        law(x, "costs 2");
        x.force(0);
        x.terms(0, 1);
        int[] want = daysByHand(17, 60, new int[3], new int[] {4, 4, 4}, 999);
        due(x.days(17, 60), 0);
        due(x.drawn(0, 1), 0);
        due(x.drawn(0, 0), 0);
        due(x.drawn(1, 1), want[2]);
        due(x.drawn(2, 1), want[3]);
        x.terms(0, 2);
        due(x.days(17, 60), 0);
        due(x.drawn(0, 1), want[1]);
        due(x.drawn(0, 0) > 0);
        due(x.operator(0, 5), 0);
    }

    @Says("COMES, if it can (given up, nothing stays)")
    static void daysAtTheLastStamp() {
        JoinRouter x = new JoinRouter();
        comeMany(x, 0, 0, 0, 994);
        int[] want = daysByHand(5, 60, new int[] {4, 0, 0}, new int[] {4, 4, 4}, 5);
        due(x.days(5, 60), 5);
        for (int r = 0; r < 3; r++) {
            due(x.drawn(r, 1), want[r + 1]);
        }
        due(x.count(1), 994);
    }

    @Says("at 7 that RELATION has the second, and 2 as WINDOW (which it may have).")
    static void daysOfWindows() {
        // Seeds whose first time is a WINDOW, of each number 2 .. 5, on STATES that have 4.
        boolean[] met = new boolean[6];
        for (int seed = 0; seed <= 400; seed++) {
            long s = seed;
            int[] d = new int[4];
            for (int j = 0; j < 4; j++) {
                s = (s * 1103 + 12345) % 1000003;
                d[j] = (int) (s % new int[] {3, 4, 4, 8}[j]);
            }
            if (d[3] == 7) {
                JoinRouter x = new JoinRouter();
                for (int i = 0; i < 12; i++) {
                    x.come(i % 3, 0, 0);
                }
                due(x.days(seed, 1), 0);
                for (int r = 0; r < 3; r++) {
                    due(x.drawn(r, 1), r == d[0] ? Math.min(4, d[1] + 2) : 4);
                    due(x.relation(r, 0), 4);
                }
                met[d[1] + 2] = true;
            }
        }
        due(met[2] && met[3] && met[4] && met[5]);
        // A WINDOW of 9 that becomes 5 and fills again: no more than 5.
        JoinRouter x = new JoinRouter();
        int[] window = {9, 9, 9};
        for (int r = 0; r < 3; r++) {
            x.window(r, 9);
        }
        for (int i = 0; i < 27; i++) {
            x.come(i % 3, 0, 0);
        }
        int[] want = daysByHand(123, 60, new int[] {9, 9, 9}, window, 999);
        due(x.days(123, 60), want[0]);
        for (int r = 0; r < 3; r++) {
            due(x.drawn(r, 1), want[r + 1]);
        }
    }

    @Says("A ROW: the TAPE's bytes by threes: RELATION, FIELDS: a TUPLE COMES")
    static void rowsByThrees() {
        JoinRouter x = new JoinRouter();
        x.join(0, 0, 1, 0);
        due(row(x, 0, 5, 6, 1, 5, 7, 2, 8, 9), 3);
        due(x.tuple(0, 0, 0), 5);
        due(x.tuple(0, 0, 1), 6);
        due(x.tuple(1, 0, 1), 7);
        due(x.tuple(2, 0, 0), 8);
        due(x.tuple(2, 0, 1), 9);
        due(x.tuple(2, 0, 2), 3);
        due(x.count(2), 1);
        due(x.operator(0, 5), 1);
        // A STRAY shifts nothing.
        due(row(x, 9, 9, 9, 0, 1, 1, 0, 9, 10, 2, 2, 2), 2);
        due(x.strays(), 2);
        due(x.tuple(0, 1, 2), 4);
        due(x.tuple(2, 1, 2), 5);
    }

    @Says("one that can't be (REFUSED by whatever), one within which the TAPE ends is a STRAY: nothing.")
    static void straysOfAllKinds() {
        for (int left = 1; left <= 9; left++) {
            JoinRouter x = new JoinRouter();
            x.feed(0x00010101, 0x02020202, 0x00030303, 0, 0);
            x.end(left);
            // 0 1 1, 1 2 2, 2 2 0.
            due(x.row(), left / 3);
            due(x.strays(), left % 3 == 0 ? 0 : 1);
            due(x.count(1), left / 3);
        }
        JoinRouter x = new JoinRouter();
        x.filter(0, 0, 1, 9);
        law(x, "costs 2; bars if b=7");
        x.force(0);
        x.terms(0, 1);
        // A wrong RELATION, wrong FIELDS, BARRED, given up, one that comes, an end.
        due(row(x, 3, 0, 0, 0, 10, 0, 0, 0, 10, 1, 1, 7, 0, 1, 1, 1, 1, 1, 1, 1), 1);
        due(x.strays(), 6);
        due(x.count(1), 1);
        due(x.operator(0, 5), 0);
        due(x.count(7) + x.count(9) + x.count(10), 0);
        due(x.count(17), 0);
    }

    @Says("one that can't be (REFUSED by whatever), one within which the TAPE ends is a STRAY: nothing.")
    static void longestRow() {
        JoinRouter x = new JoinRouter();
        int[] bytes = new int[400];
        for (int i = 0; i < 400; i++) {
            bytes[i] = i % 3 == 0 ? i / 3 % 3 : 5;
        }
        due(row(x, bytes), 133);
        due(x.strays(), 1);
        due(x.count(1), 133);
        due(x.count(6), 0);
    }

    @Says("IMAGES 0, 1 keep all but the TAPE, FAULT, STRAYS, RESULTS of the latest call of come(), what was SHUT in it, how many stood open, where ORDERS stopped, "
            + "what can be undone (nothing, behind back()), the latest DAYS")
    static void whatImagesKeep() {
        for (int k = 0; k <= 1; k++) {
            JoinRouter x = rich();
            x.image(k);
            Map<String, Long> kept = photo(x);
            poor(x);
            Map<String, Long> now = photo(x);
            due(x.back(k), 0);
            Map<String, Long> then = photo(x);
            for (Map.Entry<String, Long> e : kept.entrySet()) {
                String call = e.getKey();
                boolean isLeft = call.matches("count\\((6|16|17)\\)|strays.*|fault.*|stopped.*|deepest.*|result.*|shut.*|drawn.*");
                long want = call.equals("count(5)") ? 0 : isLeft ? now.get(call) : e.getValue();
                due(call, then.get(call), want);
                due(call, isLeft && now.get(call).equals(e.getValue()) && !call.matches("result.*|shut.*|drawn.*") ? 1 : 0, 0);
            }
            due(then.size(), kept.size());
        }
    }

    /** Something of all that there is. */
    private static JoinRouter rich() {
        JoinRouter x = new JoinRouter();
        x.join(0, 0, 1, 0);
        x.join(1, 1, 2, 1);
        comeAll(x, 1, 2, 2, 2, 3);
        x.come(2, 0, 2);
        x.come(0, 2, 3);
        x.window(2, 7);
        x.index(1, 1);
        x.terms(0, 500);
        x.terms(1, 4);
        x.terms(2, 3);
        x.seen(1, 2);
        law(x, "costs 11");
        law(x, "costs 22; bars if a=9");
        x.force(1);
        law(x, "bars if ?");
        x.days(8, 9);
        return x;
    }

    /** All else than that. */
    private static void poor(JoinRouter x) {
        x.force(0);
        x.strike(1);
        x.window(2, 1);
        x.index(1, 0);
        x.come(2, 9, 9);
        x.come(0, 2, 2);
        x.terms(0, 700);
        x.terms(1, 5);
        x.terms(2, 2);
        x.forget();
        x.seen(0, 1);
        x.seen(0, 2);
        law(x, "costs 33");
        orders(x, "come 0 with 2 and 9; strike 5");
        row(x, 9, 9, 9, 0, 1, 1, 0);
        x.days(99, 33);
        x.strike(0);
        x.filter(1, 0, 1, 9);
        x.come(1, 2, 2);
        x.strike(0);
        put(x, "left");
    }

    @Says("BACK to one all that it keeps is as it was then (IMAGES stay).")
    static void imagesStay() {
        JoinRouter x = rich();
        x.image(0);
        Map<String, Long> then = photo(rich());
        poor(x);
        x.image(1);
        for (int i = 0; i < 2; i++) {
            due(x.back(0), 0);
            due(x.count(0), then.get("count(0)"));
            due(x.count(1), then.get("count(1)"));
            due(x.count(4), then.get("count(4)"));
            due(x.compare(1, 0, 2, 3), then.get("compare(1, 0, 2, 3)"));
            x.come(0, 5, 5);
            x.end(0);
            law(x, "costs 77");
            x.seen(2, 2);
            x.terms(0, 1);
        }
        due(x.back(1), 0);
        due(x.count(0), 0);
        due(x.count(4), 3);
        due(x.count(13), 700);
    }
}
