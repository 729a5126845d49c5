import java.util.Map;

/** Each sentence under "Terms", I and II, that names an edge: the last that is taken, the first that is not, what is empty, what is full. */
public final class EdgesOfTermsTest extends Check {
    private EdgesOfTermsTest() {
    }

    public static void main(String[] args) {
        runAll(EdgesOfTermsTest.class);
    }

    // ---- I

    @Says("RELATIONS 0 .. 2.")
    static void relations() {
        for (int r = 0; r <= 2; r++) {
            JoinRouter x = new JoinRouter();
            int next = (r + 1) % 3;
            due(x.come(r, 0, 0), 1);
            due(x.result(0, r), 1);
            due(x.tuple(r, 0, 2), 1);
            due(x.relation(r, 2), 1);
            due(x.brings(r, 0, 0, 0), 1);
            due(x.cheapest(r, 0, 0, NONE), 0);
            due(x.regret(r, 0, 0), 0);
            due(x.bestIndex(r, next, 0, 0), 0);
            due(x.bestIndex(next, r, 0, 0), 0);
            due(x.compare(NONE, r, 0, 0), 0);
            due(x.join(r, 0, next, 0), 0);
            due(x.join(next, 0, r, 0), 1);
            due(x.filter(r, 0, 0, 9), 2);
            due(x.window(r, 5), 0);
            due(x.index(r, 0), 2);
            due(x.days(1, 1) >= 0);
            due(x.drawn(r, 1) >= 1);
            due(row(x, r, 1, 1), 1);
            due(orders(x, "come " + r + " with 1 and 1; window " + r + " to 1; index " + r + " to 1"), 3);
            due(lawFault("bars if relation=" + r), NONE);
        }
    }

    @Says("RELATIONS 0 .. 2.")
    static void relationsBeside() {
        for (int r : new int[] {-1, 3, LEAST, MOST}) {
            JoinRouter x = new JoinRouter();
            x.come(0, 0, 0);
            x.days(1, 1);
            due(x.come(r, 0, 0), -1);
            due(x.join(r, 0, 0, 0), -1);
            due(x.join(0, 0, r, 0), -1);
            due(x.filter(r, 0, 0, 9), -1);
            due(x.window(r, 5), -1);
            due(x.index(r, 0), -1);
            due(x.relation(r, 0), NONE);
            due(x.tuple(r, 0, 2), NONE);
            due(x.result(0, r), NONE);
            due(x.brings(r, 0, 0, 0), NONE);
            due(x.cheapest(r, 0, 0, NONE), NONE);
            due(x.regret(r, 0, 0), NONE);
            due(x.bestIndex(r, 0, 0, 0), NONE);
            due(x.bestIndex(0, r, 0, 0), NONE);
            due(x.compare(NONE, r, 0, 0), NONE);
            due(x.drawn(r, 1), NOTHING);
            due(x.count(1), 1);
        }
    }

    @Says("RELATIONS 0 .. 2.")
    static void relationsBesideInTexts() {
        JoinRouter x = new JoinRouter();
        due(row(x, 3, 1, 1, 255, 1, 1, 128, 1, 1, 2, 1, 1), 1);
        due(x.strays(), 3);
        for (String r : new String[] {"3", "0-1", "1000", "256", "1000*1000*1000"}) {
            due(orders(x, "come " + r + " with 0 and 0"), -3);
            due(orders(x, "window " + r + " to 1"), -3);
            due(orders(x, "index " + r + " to 1"), -3);
        }
        due(x.count(1), 1);
    }

    @Says("A TUPLE of a RELATION has two FIELDS 0, 1")
    static void fieldsByNumber() {
        for (int f = 0; f <= 1; f++) {
            JoinRouter x = new JoinRouter();
            due(x.join(0, f, 1, 1 - f), 0);
            due(x.join(0, 1 - f, 1, f), 1);
            due(x.filter(2, f, 0, 9), 2);
            due(x.index(0, f), 2);
        }
        for (int f : new int[] {-1, 2, LEAST, MOST}) {
            JoinRouter x = new JoinRouter();
            due(x.join(0, f, 1, 0), -1);
            due(x.join(0, 0, 1, f), -1);
            due(x.filter(2, f, 0, 9), -1);
            due(x.count(0), 0);
        }
    }

    @Says("each 0 .. 9, and a STAMP")
    static void fieldsOfTuples() {
        for (int v = 0; v <= 9; v++) {
            JoinRouter x = new JoinRouter();
            due(x.come(0, v, 9 - v), 1);
            due(x.tuple(0, 0, 0), v);
            due(x.tuple(0, 0, 1), 9 - v);
            due(x.brings(1, v, 9 - v, 0), 1);
            due(row(x, 1, v, 9 - v), 1);
            due(x.tuple(1, 0, 0), v);
            due(x.tuple(1, 0, 1), 9 - v);
            due(orders(x, "come 2 with " + v + " and " + (9 - v)), 1);
            due(x.tuple(2, 0, 0), v);
            due(x.tuple(2, 0, 1), 9 - v);
        }
    }

    @Says("each 0 .. 9, and a STAMP")
    static void fieldsOfTuplesBeside() {
        for (int v : new int[] {-1, 10, 256, LEAST, MOST}) {
            JoinRouter x = new JoinRouter();
            due(x.come(0, v, 0), -1);
            due(x.come(0, 0, v), -1);
            for (int what = 0; what <= 1; what++) {
                due(x.brings(0, v, 0, what), NONE);
                due(x.brings(0, 0, v, what), NONE);
            }
            due(x.cheapest(0, v, 0, NONE), NONE);
            due(x.cheapest(0, 0, v, NONE), NONE);
            due(x.regret(0, v, 0), NONE);
            due(x.regret(0, 0, v), NONE);
            due(x.bestIndex(1, 0, v, 0), NONE);
            due(x.bestIndex(1, 0, 0, v), NONE);
            due(x.compare(NONE, 0, v, 0), NONE);
            due(x.compare(NONE, 0, 0, v), NONE);
            due(x.count(1), 0);
        }
        JoinRouter x = new JoinRouter();
        due(row(x, 0, 10, 0, 0, 0, 10, 0, 255, 0, 0, 0, 255), 0);
        due(x.strays(), 4);
        due(orders(x, "come 0 with 10 and 0"), -3);
        due(orders(x, "come 0 with 0 and 10"), -3);
        due(orders(x, "come 0 with 0-1 and 0"), -3);
        due(orders(x, "come 0 with 0 and 0-1"), -3);
        due(orders(x, "come 3 with 0 and 0"), -3);
        due(orders(x, "come 0-1 with 0 and 0"), -3);
        due(x.count(1), 0);
    }

    @Says("a STAMP: 1 for the first that comes, one more for each behind.")
    static void stamps() {
        JoinRouter x = new JoinRouter();
        due(x.count(1), 0);
        x.come(2, 0, 0);
        due(x.count(1), 1);
        due(x.tuple(2, 0, 2), 1);
        x.come(0, 0, 10);
        x.come(0, 0, 0);
        due(x.tuple(0, 0, 2), 2);
        row(x, 9, 9, 9, 1, 1, 1);
        due(x.tuple(1, 0, 2), 3);
        orders(x, "come 2 with 3 and 3");
        due(x.tuple(2, 1, 2), 4);
        x.undo();
        x.come(0, 5, 5);
        due(x.tuple(0, 1, 2), 4);
        due(orders(x, "come 0 with 1 and 1; strike 0"), -3);
        x.come(1, 5, 5);
        due(x.tuple(1, 1, 2), 5);
        due(x.count(1), 5);
    }

    @Says("WINDOW of a RELATION 1 .. 9 (4 at first)")
    static void windowRange() {
        for (int r = 0; r < 3; r++) {
            JoinRouter x = new JoinRouter();
            due(x.relation(r, 0), 4);
            due(x.window(r, 0), -1);
            due(x.window(r, 10), -1);
            due(x.window(r, -1), -1);
            due(x.window(r, LEAST), -1);
            due(x.window(r, MOST), -1);
            due(x.relation(r, 0), 4);
            for (int w : new int[] {1, 9, 8, 2, 3, 5, 6, 7, 4}) {
                due(x.window(r, w), 0);
                due(x.relation(r, 0), w);
                due(x.relation((r + 1) % 3, 0), 4);
            }
        }
    }

    @Says("its STATE has so many TUPLES at most (none at first), those of the highest STAMPS.")
    static void statesFull() {
        for (int w = 1; w <= 9; w++) {
            JoinRouter x = new JoinRouter();
            due(x.relation(1, 2), 0);
            due(x.tuple(1, 0, 0), NONE);
            x.window(1, w);
            for (int n = 1; n <= w + 2; n++) {
                x.come(1, n % 10, 0);
                due(x.relation(1, 2), Math.min(n, w));
                int lowest = Math.max(1, n - w + 1);
                due(x.tuple(1, 0, 2), lowest);
                due(x.tuple(1, Math.min(n, w) - 1, 2), n);
                due(x.tuple(1, Math.min(n, w), 2), NONE);
            }
            for (int i = 0; i < w; i++) {
                due(x.tuple(1, i, 2), i + 3);
                due(x.tuple(1, i, 0), (i + 3) % 10);
            }
            due(x.relation(0, 2), 0);
            due(x.relation(2, 2), 0);
        }
    }

    @Says("INDEX of a RELATION: 0 or 1, a FIELD, or 2 (at first): none.")
    static void indexRange() {
        for (int r = 0; r < 3; r++) {
            JoinRouter x = new JoinRouter();
            due(x.relation(r, 1), 2);
            for (int i : new int[] {-1, 3, LEAST, MOST}) {
                due(x.index(r, i), -1);
            }
            due(x.relation(r, 1), 2);
            due(x.index(r, 0), 2);
            due(x.relation(r, 1), 0);
            due(x.index(r, 1), 0);
            due(x.relation(r, 1), 1);
            due(x.relation((r + 1) % 3, 1), 2);
            due(x.index(r, 2), 1);
            due(x.relation(r, 1), 2);
        }
    }

    @Says("BUCKET of a number v: v times v times 7, and 3, modulo 5.")
    static void buckets() {
        int[] bucket = {3, 0, 1, 1, 0, 3, 0, 1, 1, 0};
        for (int v = 0; v <= 9; v++) {
            JoinRouter x = new JoinRouter();
            x.come(1, v, 0);
            x.join(0, 1, 1, 0);
            due(x.brings(0, 0, v, 1), 1);
            x.index(1, 0);
            for (int u = 0; u <= 9; u++) {
                due(x.brings(0, 0, u, 1), bucket[u] == bucket[v] ? 1 : 0);
                due(x.brings(0, 0, u, 0), u == v ? 1 : 0);
            }
        }
    }

    @Says("OPERATORS 0 .. 3 (4 at most)")
    static void fourOperators() {
        for (int joins = 0; joins <= 4; joins++) {
            JoinRouter x = new JoinRouter();
            due(x.count(0), 0);
            for (int o = 0; o < 4; o++) {
                due(x.operator(o, 0), NOTHING);
                due(o < joins ? x.join(0, 0, 1, 0) : x.filter(0, 0, 0, 9), o);
                due(x.count(0), o + 1);
                due(x.operator(o, 0), o < joins ? 0 : 1);
            }
            due(x.join(0, 0, 1, 0), -5);
            due(x.filter(0, 0, 0, 9), -5);
            due(x.operator(4, 0), NOTHING);
            due(x.count(0), 4);
            due(x.strike(3), 3);
            due(x.filter(0, 0, 0, 9), 3);
            due(x.filter(0, 0, 0, 9), -5);
            due(x.undo(), 1);
            due(x.join(0, 0, 1, 0), 3);
            due(x.join(0, 0, 1, 0), -5);
        }
    }

    @Says("a JOIN: a FIELD of a RELATION is the same as one of another RELATION")
    static void joinsOfAllFields() {
        for (int kind = 0; kind < 24; kind++) {
            int one = kind / 8;
            int other = (one + 1 + kind % 2) % 3;
            int f = kind / 2 % 2;
            int g = kind / 4 % 2;
            for (int v = 0; v <= 9; v++) {
                // Either of them comes last.
                for (int last : new int[] {one, other}) {
                    JoinRouter x = new JoinRouter();
                    due(x.join(one, f, other, g), 0);
                    int first = last == one ? other : one;
                    comeWith(x, first, first == one ? f : g, v);
                    for (int u = 0; u <= 9; u++) {
                        due(x.brings(last, withField(last == one ? f : g, u, 0), withField(last == one ? f : g, u, 1), 0), u == v ? 1 : 0);
                    }
                }
            }
        }
    }

    /** Of a TUPLE whose FIELD is v, and whose other FIELD is far from it, FIELD i. */
    private static int withField(int field, int v, int i) {
        return i == field ? v : (v + 5) % 10;
    }

    private static void comeWith(JoinRouter x, int relation, int field, int v) {
        x.come(relation, withField(field, v, 0), withField(field, v, 1));
    }

    @Says("or a FILTER: a FIELD of a RELATION is below (0), as (1), above (2) a number 0 .. 9.")
    static void filtersOfAllNumbers() {
        for (int kind = 0; kind <= 2; kind++) {
            for (int number = 0; number <= 9; number++) {
                JoinRouter x = new JoinRouter();
                int f = number % 2;
                due(x.filter(1, f, kind, number), 0);
                for (int v = 0; v <= 9; v++) {
                    boolean isSo = kind == 0 ? v < number : kind == 1 ? v == number : v > number;
                    due(x.brings(1, f == 0 ? v : number, f == 1 ? v : number, 0), isSo ? 1 : 0);
                    due(x.come(1, f == 0 ? v : number, f == 1 ? v : number), isSo ? 1 : 0);
                }
            }
        }
    }

    @Says("or a FILTER: a FIELD of a RELATION is below (0), as (1), above (2) a number 0 .. 9.")
    static void filtersBeside() {
        JoinRouter x = new JoinRouter();
        for (int n : new int[] {-1, 10, LEAST, MOST}) {
            for (int kind = 0; kind <= 2; kind++) {
                due(x.filter(0, 0, kind, n), -1);
            }
        }
        for (int kind : new int[] {-1, 3, LEAST, MOST}) {
            due(x.filter(0, 0, kind, 0), -1);
        }
        due(x.count(0), 0);
        due(x.count(7), 16);
    }

    @Says("TICKETS of an OPERATOR (0 at first).")
    static void ticketsAtFirst() {
        JoinRouter x = new JoinRouter();
        x.join(0, 0, 1, 0);
        due(x.operator(0, 5), 0);
        x.come(0, 0, 0);
        due(x.operator(0, 5), 1);
        x.filter(0, 0, 0, 9);
        due(x.operator(1, 5), 0);
        due(x.operator(0, 5), 1);
    }

    @Says("SEEN, 6 at most")
    static void sixSeen() {
        JoinRouter x = new JoinRouter();
        due(x.count(3), 0);
        for (int i = 1; i <= 6; i++) {
            due(x.seen(i % 3, i), i);
        }
        due(x.seen(0, 0), -5);
        due(x.status(), -5);
        due(x.count(3), 6);
        due(x.forget(), 6);
        due(x.seen(0, 0), 1);
    }

    @Says("of a TUPLE nobody knows in a STATE a FACT (0 RELATION, 1 FIELD 0, 2 FIELD 1) is n.")
    static void factsSeen() {
        JoinRouter x = new JoinRouter();
        x.come(0, 1, 2);
        x.come(1, 2, 0);
        x.come(2, 0, 1);
        int[][] by = {{1, 2, 3}, {3, 1, 2}, {2, 3, 1}};
        for (int fact = 0; fact <= 2; fact++) {
            for (int n = 0; n <= 9; n++) {
                due(x.seen(fact, n), 1);
                due(x.canBe(NONE), n <= 2 ? 1 : 0);
                due(x.canBe(0), n <= 2 ? by[fact][n] : NONE);
                due(x.forget(), 1);
            }
        }
        // Of one that has gone from its STATE nothing is left.
        x.window(0, 1);
        x.come(0, 9, 9);
        x.seen(1, 1);
        due(x.canBe(NONE), 0);
    }

    @Says("0 BUDGET 1 .. 999 (999 at first)")
    static void budgetRange() {
        termRange(0, 1, 999, 999);
    }

    @Says("1 SLIPS 0 .. 10 (1)")
    static void slipsRange() {
        termRange(1, 0, 10, 1);
    }

    @Says("2 MOOD 0 .. 9 (0).")
    static void moodRange() {
        termRange(2, 0, 9, 0);
    }

    private static void termRange(int what, int least, int most, int first) {
        JoinRouter x = new JoinRouter();
        due(x.count(13 + what), first);
        for (int beside : new int[] {least - 1, most + 1, LEAST, MOST}) {
            due(x.terms(what, beside), -1);
            due(x.count(13 + what), first);
        }
        due(x.terms(what, least), first);
        due(x.count(13 + what), least);
        due(x.terms(what, most), least);
        due(x.count(13 + what), most);
        due(x.terms(what, most - 1), most);
        due(x.terms(what, least + 1), most - 1);
        due(x.terms(what, least + 1), least + 1);
        for (int other = 0; other < 3; other++) {
            due(other == what || x.count(13 + other) == new int[] {999, 1, 0}[other]);
        }
    }

    @Says("The first of these in that order.")
    static void firstOfRefusals() {
        JoinRouter x = new JoinRouter();
        for (int i = 0; i < 4; i++) {
            x.filter(0, 0, 0, 9);
        }
        due(x.join(0, 0, 0, 0), -1);
        due(x.join(0, 0, 1, 2), -1);
        due(x.filter(0, 0, 0, 10), -1);
        due(x.filter(0, 0, 0, 9), -5);
        for (int i = 0; i < 6; i++) {
            x.seen(0, 0);
            law(x, i == 0 ? "bars; costs 99" : i == 1 ? "costs 99" : "bars");
        }
        due(x.seen(3, 0), -1);
        due(x.seen(0, 10), -1);
        due(x.seen(0, 0), -5);
        due(law(x, "?"), -5);
        due(law(x, ""), -5);
        x.terms(0, 1);
        x.force(0);
        due(x.come(3, 0, 0), -1);
        due(x.come(0, 0, 10), -1);
        due(x.come(0, 0, 0), -3);
        x.force(1);
        due(x.come(0, 10, 0), -1);
        due(x.come(0, 0, 0), -5);
        due(x.window(3, 4), -1);
        due(x.window(0, 10), -1);
        due(x.window(0, 4), -3);
        due(x.index(3, 2), -1);
        due(x.index(0, 3), -1);
        due(x.index(0, 2), -3);
        due(x.back(2), -1);
        due(x.back(1), -2);
    }

    @Says("The first of these in that order.")
    static void firstOfRefusalsAtTheLastStamp() {
        JoinRouter x = new JoinRouter();
        comeMany(x, 0, 0, 0, 999);
        x.filter(0, 0, 0, 9);
        law(x, "costs 99");
        x.force(0);
        x.terms(0, 1);
        due(x.brings(0, 0, 0, 1), 99);
        due(x.come(0, 0, 10), -1);
        due(x.come(0, 0, 0), -3);
        due(x.undo(), 1);
        due(x.undo(), 0);
        x.filter(0, 0, 0, 9);
        due(x.come(0, 0, 0), -5);
    }

    // ---- II: TEXTS

    @Says("TEXTS are on a TAPE of at most 400 bytes.")
    static void longestTexts() {
        due(lawFault("costs" + many(" ", 394) + "7"), NONE);
        due(lawFault("costs" + many(" ", 395)), 400);
        due(lawFault("bars if" + many(" not", 97) + " a=77"), NONE);
        due(lawFault("bars if" + many(" not", 97) + " a=7="), 399);
        due(lawFault("bars if" + many(" not", 97) + " 77 ="), 400);
        due(ordersFault("window 0 to" + many(" ", 388) + "7"), NONE);
        due(ordersFault("window 0 to" + many(" ", 389)), 400);
        due(lawFault(many("?", 400)), 0);
        due(lawFault("costs " + many("1", 394)), 6);
        due(lawFault("costs " + many("0", 393) + "7"), NONE);
        due(lawFault(many("a", 400)), 0);
        JoinRouter x = new JoinRouter();
        for (int i = 1; i <= 20; i++) {
            due(x.feed(0x20202020, 0x20202020, 0x20202020, 0x20202020, 0x20202020), 20 * i);
        }
        due(x.feed(0, 0, 0, 0, 0), NONE);
        due(x.law(), -6);
        due(x.fault(), 400);
    }

    @Says("TOKENS: longest rows of letters a .. z, of digits, single other bytes, any blanks (32) between.")
    static void tokens() {
        due(lawFault("costs7"), NONE);
        due(lawFault("costs a"), NONE);
        due(lawFault("costsa"), 0);
        due(lawFault("cost s1"), 0);
        due(lawFault("costs op"), NONE);
        due(lawFault("costs o p"), 6);
        due(lawFault("costs opa"), 6);
        due(lawFault("costs 1 0"), 8);
        due(lawFault("costs 10"), NONE);
        due(lawFault("costs a b"), 8);
        due(lawFault("barsif a=1"), 0);
        due(lawFault("bars if a=1or b=2and a<3;bars"), NONE);
        due(lawFault("bars if nota=1"), 8);
        due(lawFault("bars if not[a]=1"), NONE);
        due(lawFault("bars ifa=1"), 5);
        due(lawFault("   costs    1   +   [   a   ]   ;   bars   if   (   a   <   b   )   "), NONE);
        due(lawFault("costs 1+[a];bars if(a<b)"), NONE);
        due(ordersFault("come0with1and2times3if held0=0"), NONE);
        due(ordersFault("come0 with1 and2 times3if held 00=tickets 03"), NONE);
        due(ordersFault("window 0to 1"), NONE);
        due(ordersFault("window 0 t o 1"), 9);
    }

    @Says("TOKENS: longest rows of letters a .. z, of digits, single other bytes, any blanks (32) between.")
    static void bytesThatAreNone() {
        for (int sign = 0; sign <= 255; sign++) {
            boolean isLetter = sign >= 'a' && sign <= 'z';
            boolean isDigit = sign >= '0' && sign <= '9';
            boolean goesOn = sign == '+' || sign == '-' || sign == '*' || sign == '/' || sign == '%' || sign == ';';
            String text = "costs 1" + (char) sign;
            due(lawFault(text), isDigit || sign == ' ' ? NONE : goesOn ? 8 : 7);
            due(lawFault("costs " + (char) sign), sign == 'a' || sign == 'b' || isDigit ? NONE : sign == ' ' || sign == '[' ? 7 : 6);
            due(lawFault((char) sign + "bars"), sign == ' ' ? NONE : 0);
            due(lawFault("bars" + (char) sign + "if a=1"), sign == ' ' ? NONE : isLetter ? 0 : sign == ';' ? 5 : 4);
        }
    }

    @Says("CLAUSE {\";\" CLAUSE}, 12 at most (FAULT at the 13th's first TOKEN).")
    static void twelveClauses() {
        for (int n = 1; n <= 12; n++) {
            due(lawFault("bars" + many(";bars", n - 1)), NONE);
            due(ordersFault("strike 0" + many(";strike 0", n - 1)), NONE);
            // A ";" asks for one more.
            due(lawFault("bars" + many(";bars", n - 1) + ";"), 5 * n);
            due(ordersFault("strike 0" + many(";strike 0", n - 1) + "; "), 9 * n + 1);
            due(lawFault("bars" + many(";bars", n - 1) + ";;"), 5 * n);
        }
        due(lawFault("bars" + many(";bars", 12)), 60);
        due(lawFault("bars" + many(";bars", 11) + ";   bars"), 63);
        due(lawFault("bars" + many(";bars", 11) + ";   ?"), 63);
        due(lawFault("bars" + many(";bars", 20)), 60);
        due(lawFault("bars" + many(";bars", 11) + "bars"), 55);
        due(lawFault("bars" + many(";bars", 11) + " bars"), 60);
        due(lawFault("costs 1" + many(";costs 1", 11) + ";costs ?"), 96);
        due(ordersFault("strike 0" + many(";strike 0", 12)), 108);
        due(ordersFault("strike 0" + many(";strike 0", 11) + " strike 0"), 108);
    }

    @Says("CLAUSE {\";\" CLAUSE}, 12 at most (FAULT at the 13th's first TOKEN).")
    static void theTwelfthCounts() {
        JoinRouter x = new JoinRouter();
        x.filter(0, 0, 0, 9);
        due(law(x, "costs 1" + many(";costs 2", 10) + ";costs 3"), 0);
        due(x.compare(0, 0, 0, 0), 3);
        due(law(x, "costs 1" + many(";costs 2", 10) + ";bars"), 1);
        x.force(1);
        due(x.come(0, 0, 0), -3);
        x.force(NONE);
        due(orders(x, "come 0 with 0 and 0" + many(";come 0 with 0 and 0", 10) + ";come 1 with 0 and 0"), 12);
        due(x.relation(1, 2), 1);
    }

    @Says("PART: NUMBER (to 1,000)")
    static void numbersToAThousand() {
        for (String n : new String[] {"0", "1", "9", "10", "99", "100", "999", "1000", "01000", "00000000000000000000"}) {
            due(lawFault("costs " + n), NONE);
            due(ordersFault("strike " + n), NONE);
            due(lawFault("bars if 1=" + n), NONE);
        }
        for (String n : new String[] {"1001", "1010", "2000", "9999", "10000", "01001", "2147483647", "2147483648", "4294967296", "4294967297",
            "18446744073709551616", "18446744073709551617"}) {
            due(lawFault("costs " + n), 6);
            due(lawFault("costs 1+" + n), 8);
            due(lawFault("bars if 1=" + n), 10);
            due(ordersFault("strike " + n), 7);
            due(ordersFault("window 0 to " + n), 12);
        }
        due(costBy("costs 1000-999"), 1);
        due(costBy("costs 1000/1000"), 1);
    }

    @Says("50 PARTS that are NUMBERS and words (FAULT at the 51st)")
    static void fiftyParts() {
        String fifty = "costs a" + many("+1", 49);
        due(lawFault(fifty), NONE);
        due(lawFault(fifty + "+1"), fifty.length() + 1);
        due(lawFault(fifty + "+b"), fifty.length() + 1);
        due(lawFault(fifty + "+?"), fifty.length() + 1);
        due(lawFault(fifty + "+1001"), fifty.length() + 1);
        due(lawFault(fifty + "+1+1"), fifty.length() + 1);
        due(lawFault(fifty + "+[1]"), fifty.length() + 2);
        due(lawFault(fifty + ";bars"), NONE);
        due(lawFault(fifty + ";costs 1"), fifty.length() + 7);
        due(lawFault(fifty + ";bars if (not 1=1)"), fifty.length() + 14);
        String tests = "bars if 1=1" + many(" or 1=1", 24);
        due(lawFault(tests), NONE);
        due(lawFault(tests + " and 1=1"), tests.length() + 5);
        due(lawFault("costs 1;" + tests), 8 + tests.length() - 1);
        // Brackets and signs are no PARTS.
        due(lawFault("costs [[[a]]]" + many("*[1]", 49)), NONE);
        due(lawFault("costs [[[a]]]" + many("*[1]", 50)), 13 + 49 * 4 + 2);
        String split = "costs 1" + many("+1", 3) + many(";costs 1+1+1+1", 11);
        due(lawFault(split + "+1+1"), NONE);
        due(lawFault(split + "+1+1+1"), split.length() + 5);
        String ordered = "strike 0" + many("+1", 49);
        due(ordersFault(ordered), NONE);
        due(ordersFault(ordered + "+1"), ordered.length() + 1);
        due(ordersFault(ordered + ";strike 0"), ordered.length() + 8);
        due(ordersFault(ordered + " if 1=1"), ordered.length() + 4);
    }

    @Says("8 brackets of both kinds within one another (FAULT at the 9th) at most.")
    static void eightBrackets() {
        for (int round = 0; round <= 8; round++) {
            String opened = many("(", round) + many("[", 8 - round);
            String shut = many("]", 8 - round);
            due(lawFault("bars if " + opened + "a" + shut + "=1" + many(")", round)), NONE);
            due(lawFault("bars if " + opened + "[a" + shut + "]=1" + many(")", round)), 16);
            due(lawFault("bars if " + many("(", round) + "a=" + many("[", 8 - round) + "1" + shut + many(")", round)), NONE);
            due(lawFault("bars if " + many("(", round) + "a=" + many("[", 9 - round) + "1]" + shut + many(")", round)), 18);
        }
        due(lawFault("bars if " + many("(", 9) + "a=1" + many(")", 9)), 16);
        due(lawFault("costs " + many("[", 8) + "1" + many("]", 8)), NONE);
        due(lawFault("costs " + many("[", 9) + "1" + many("]", 9)), 14);
        due(lawFault("costs " + many("[", 9)), 14);
        due(lawFault("costs " + many("[", 8)), 14);
        due(ordersFault("strike " + many("[", 8) + "0" + many("]", 8)), NONE);
        due(ordersFault("strike " + many("[", 9) + "0" + many("]", 9)), 15);
        due(ordersFault("strike 0 if " + many("(", 8) + "1=1" + many(")", 8)), NONE);
        due(ordersFault("strike 0 if " + many("(", 9) + "1=1" + many(")", 9)), 20);
        // Beside one another there may be more.
        due(lawFault("costs [1]" + many("+[1]", 30)), NONE);
        String deep = many("[", 8) + "1" + many("]", 8);
        due(lawFault("costs " + deep + "+" + deep + "-" + deep), NONE);
        due(lawFault("bars if (1=1)" + many(" and not (1=1)", 20)), NONE);
        due(costBy("costs " + many("[1+", 8) + "1" + many("]", 8)), 9);
    }

    @Says("FAULT: the first TOKEN that can't go on there (the end's: the TEXT's length).")
    static void faultsOfLaws() {
        String[] text = {"", " ", "costs", "costs ", "costs  +", "bars 1", "bars bars", "costs 1 bars", "bars if", "bars if ", "bars if a", "bars if a ", "bars if a<",
            "bars if a<=1", "bars if a==1", "bars if a=1 =1", "bars if (a=1", "bars if (a=1]", "bars if ((a)=1)", "bars if (a=1))", "bars if ()", "costs []",
            "costs [1", "costs [1)", "costs (1)", "costs 1]", "costs 1 if", "costs if a=1", "costs 1 if a=1 if b=1", "costs 1 if not", "costs 1 if a=1 or",
            "costs 1 if or a=1", "costs 1 if a=1 or and b=1", "costs 1 if a=1 not b=1", "costs -1", "costs +1", "costs 1+-1", "costs 1**1", "costs 1/",
            "costs held 0", "costs stamp 0", "costs tickets 0", "costs done", "costs results", "strike 0", "come 0 with 0 and 0", "bars times 2", "costs 1 times 2",
            ";", "bars;", "bars; ", ";bars", "bars,bars", "costs costs 1", "costs not 1", "costs 1 and 1", "bars if 1", "bars if not (1)", "if a=1", "costs a=1",
            "bars if [a=1]", "bars if a=(1)", "bars not a=1", "costs x", "costs A", "Bars", "BARS"};
        int[] place = {0, 1, 5, 6, 7, 5, 5, 8, 7, 8, 9, 10, 10, 10, 10, 12, 12, 12, 11, 13, 9, 7, 8, 8, 6, 7, 10, 6, 15, 14, 17, 11, 18, 15, 6, 6, 8, 8, 8, 6, 12, 14, 6, 6,
            0, 0, 5, 8, 0, 5, 6, 0, 4, 6, 6, 8, 9, 14, 0, 7, 10, 10, 5, 6, 6, 0, 0};
        due(text.length, place.length);
        for (int i = 0; i < text.length; i++) {
            due(text[i], lawFault(text[i]), place[i]);
        }
    }

    @Says("FAULT: the first TOKEN that can't go on there (the end's: the TEXT's length).")
    static void faultsOfOrders() {
        String[] text = {"", "  ", "come", "come 0", "come 0 with", "come 0 with 0", "come 0 with 0 and", "come 0 with 0 and ", "come 0 and 0", "come 0 with 0 with 0",
            "come with 0 and 0", "come 0 with 0 and 0 and 0", "strike", "strike to 0", "strike 0 to 0", "window 0", "window 0 to", "window 0 with 1", "window to 1",
            "window 0 to 1 to 1", "index 0", "index 0 to", "index 0 and 1", "strike 0 times", "strike 0 times times", "strike 0 times 0", "strike 0 times 1+1",
            "strike 0 times 1 times 1", "strike 0 if", "strike 0 if 1", "strike 0 if 1=1 times 2", "strike a", "strike op", "strike mood", "strike size", "strike marks",
            "strike held", "strike held 0", "strike held stamp", "strike held [0]", "strike tickets", "strike tickets done", "bars", "costs 1", "strike 0;", "strike 0;;",
            "strike 0 strike 0", "undo", "strike relation", "times 2", "strike 0 times 2 2", "strike 0 if times 2", "strike held 0 0"};
        int[] place = {0, 2, 4, 6, 11, 13, 17, 18, 7, 14, 5, 20, 6, 7, 9, 8, 11, 9, 7, 14, 7, 10, 8, 14, 15, 15, 16, 17, 11, 13, 16, 7, 7, 7, 7, 7, 11, NONE, 12, 12, 14, 15,
            0, 0, 9, 9, 9, 0, 7, 0, 17, 12, 14};
        due(text.length, place.length);
        for (int i = 0; i < text.length; i++) {
            due(text[i], ordersFault(text[i]), place[i]);
        }
    }

    @Says("Beyond 1,000,000,000 either way")
    static void sumsBeyond() {
        String most = "1000*1000*1000";
        due(costBy("costs " + most), 99);
        due(costBy("costs " + most + "+0"), 99);
        due(costBy("costs " + most + "+1"), 2);
        due(costBy("costs 1+" + most), 2);
        due(costBy("costs " + most + "-" + most + "+7"), 7);
        due(costBy("costs " + most + "+1-" + most), 2);
        due(costBy("costs 7+" + most + "-" + most), 2);
        due(costBy("costs 0-" + most), 0);
        due(costBy("costs 0-" + most + "-1"), 2);
        due(costBy("costs 0-1-" + most), 2);
        due(costBy("costs 0-" + most + "+" + most + "+7"), 7);
        due(costBy("costs [" + most + "+1]/1000/1000/1000"), 2);
        due(costBy("costs " + most + "/1000/1000/1000"), 1);
        due(costBy("costs [1000*1000+1]*1000"), 2);
        due(costBy("costs [0-1000*1000-1]*1000"), 2);
        due(costBy("costs [1000*1000-1]*1000"), 99);
        due(costBy("costs " + many("1000*", 12) + "0"), 2);
        due(costBy("costs " + many("1000*", 40) + "1000"), 2);
        due(costBy("costs [0-1000]*1000*1000"), 0);
        due(costBy("costs [0-1000]*1000*1000*[0-1]"), 99);
    }

    @Says("Beyond 1,000,000,000 either way")
    static void testsBeyond() {
        String most = "1000*1000*1000";
        so(most + "=" + most);
        so(most + ">0-" + most);
        so(most + ">999*1000*1000");
        broken(most + "+1=1");
        broken("1=" + most + "+1");
        broken("0-" + most + "-1<1");
        broken("1>0-" + most + "-1");
        broken("1=1 and " + most + "+1=1");
        JoinRouter x = new JoinRouter();
        law(x, "bars if 1000*1000*1000+a>0");
        x.force(0);
        due(x.come(0, 0, 0), -3);
        due(x.come(0, 1, 0), 1);
        law(x, "bars if 0-1000*1000*1000-a<0");
        x.force(1);
        due(x.come(0, 0, 0), -3);
        due(x.come(0, 1, 0), 1);
    }

    @Says("or divided by 0 (/ cut towards 0, % what is left then), a SUM, a TEST is BROKEN")
    static void divided() {
        due(costBy("costs 7/0"), 2);
        due(costBy("costs 7%0"), 2);
        due(costBy("costs 0/0"), 2);
        due(costBy("costs 0%0"), 2);
        due(costBy("costs 7/[3-a]"), 2);
        due(costBy("costs 7/[a-2]"), 7);
        due(costBy("costs 7+0*[1/0]"), 2);
        due(costBy("costs 0/5"), 0);
        due(costBy("costs 7/2"), 3);
        due(costBy("costs 1/2"), 0);
        due(costBy("costs 50+[0-7]/2"), 47);
        due(costBy("costs 50+7/[0-2]"), 47);
        due(costBy("costs 50+[0-7]/[0-2]"), 53);
        due(costBy("costs 50+[0-1]/2"), 50);
        due(costBy("costs 50+7%2"), 51);
        due(costBy("costs 50+[0-7]%2"), 49);
        due(costBy("costs 50+7%[0-2]"), 51);
        due(costBy("costs 50+[0-7]%[0-2]"), 49);
        due(costBy("costs 50+6%3"), 50);
        due(costBy("costs 50+2%3"), 52);
        broken("1/0=1");
        broken("1=1/0");
        broken("1%0<1");
        broken("(1/0=1)");
        broken("not 1/0=1");
        broken("not not 1/0=1");
        due(orders(new JoinRouter(), "come 0 with 1/0 and 0"), -3);
        due(orders(new JoinRouter(), "come 0 with 0 and 5%0"), -3);
        due(orders(new JoinRouter(), "come 0/1 with 9/5 and 0%1"), 1);
    }

    @Says("(\"or\", \"and\" ask what stands behind only if it can still matter)")
    static void askedOnlyIfItMatters() {
        so("1=1 or 1/0=1");
        broken("1=2 or 1/0=1");
        broken("1/0=1 or 1=1");
        broken("1/0=1 or 1=2");
        notSo("1=2 and 1/0=1");
        broken("1=1 and 1/0=1");
        broken("1/0=1 and 1=1");
        broken("1/0=1 and 1=2");
        so("1=2 and 1/0=1 or 1=1");
        notSo("1=2 and 1/0=1 or 1=2");
        so("1=1 or 1/0=1 and 1/0=1");
        so("1=2 or 1=1 or 1/0=1");
        notSo("1=1 and 1=2 and 1/0=1");
        notSo("(1=1 or 1/0=1) and 1=2");
        so("(1=1 or 1/0=1) and 1=1");
        so("(1=2 and 1/0=1) or 1=1");
        so("1=1 or (1=1 and 1/0=1)");
        so("not (1=2 and 1/0=1)");
        so("not 1=2 or 1/0=1");
        notSo("not 1=1 and 1/0=1");
        broken("not 1=1 or 1/0=1");
        so("1=1 or 1000*1000*1000+1=1");
        notSo("1=2 and 1000*1000*1000+1=1");
    }

    @Says("LAWS, 6 at most; one is in FORCE (NONE at first: no CLAUSE)")
    static void sixLaws() {
        JoinRouter x = new JoinRouter();
        x.filter(0, 0, 0, 9);
        due(x.count(4), 0);
        due(x.count(12), NONE);
        due(x.come(0, 0, 0), 1);
        due(x.brings(0, 0, 0, 1), 1);
        for (int i = 0; i < 6; i++) {
            due(law(x, "costs 1" + i), i);
            due(x.count(4), i + 1);
            due(x.count(12), NONE);
        }
        due(law(x, "costs 16"), -5);
        due(x.count(4), 6);
        due(x.brings(0, 0, 0, 1), 1);
        for (int i = 0; i < 6; i++) {
            due(x.compare(i, 0, 0, 0), 10 + i);
            due(x.force(i), i - 1);
            due(x.count(12), i);
            due(x.brings(0, 0, 0, 1), 10 + i);
        }
        due(x.force(6), -2);
        due(x.brings(0, 0, 0, 1), 15);
        due(x.force(NONE), 5);
        due(x.brings(0, 0, 0, 1), 1);
    }

    @Says("(relation; a, b: its FIELDS; stamp: that it would have; op, size, tickets, marks -1)")
    static void wordsOfBars() {
        String[] isSo = {"relation=2", "a=9", "b=0", "stamp=4", "op=0-1", "size=0-1", "tickets=0-1", "marks=0-1", "mood=9"};
        String[] isNot = {"relation=1", "a=8", "b=1", "stamp=3", "op=0", "size=1", "tickets=1", "marks=0", "mood=0"};
        for (int i = 0; i < isSo.length; i++) {
            JoinRouter x = new JoinRouter();
            x.filter(2, 0, 1, 5);
            x.come(2, 0, 0);
            x.come(2, 0, 0);
            x.come(0, 0, 0);
            x.terms(2, 9);
            due(law(x, "bars if " + isSo[i]), 0);
            due(law(x, "bars if " + isNot[i]), 1);
            x.force(0);
            due(x.come(2, 9, 0), -3);
            x.force(1);
            due(x.come(2, 9, 0), 0);
        }
    }

    @Says("(op: its number; size: how many it looks at; tickets: its TICKETS ahead of that; marks: how many MARKS the PARTIAL has; the others as for \"bars\")")
    static void wordsOfCosts() {
        JoinRouter x = new JoinRouter();
        x.come(1, 5, 0);
        x.join(0, 0, 1, 0);
        x.filter(0, 1, 0, 9);
        x.terms(2, 8);
        String[] words = {"op", "relation", "a", "b", "size", "tickets", "marks", "stamp", "mood"};
        // The JOIN takes it first (alike TICKETS), then the FILTER.
        int[] ofJoin = {0, 0, 5, 3, 1, 0, 0, 2, 8};
        int[] ofFilter = {1, 0, 5, 3, 1, 0, 1, 2, 8};
        for (int i = 0; i < words.length; i++) {
            JoinRouter y = new JoinRouter();
            y.come(1, 5, 0);
            y.join(0, 0, 1, 0);
            y.filter(0, 1, 0, 9);
            y.terms(2, 8);
            law(y, "costs 0; costs 10+" + words[i] + " if marks=0");
            law(y, "costs 0; costs 10+" + words[i] + " if marks=1");
            due(y.compare(0, 0, 5, 3), 10 + ofJoin[i]);
            due(y.compare(1, 0, 5, 3), 10 + ofFilter[i]);
        }
        // Behind one that brought nothing the JOIN has a TICKET.
        due(x.come(0, 6, 3), 0);
        law(x, "costs 0; costs 20+tickets if op=0");
        due(x.compare(0, 0, 5, 3), 21);
    }

    @Says("A CLAUSE HOLDS, if its \"if\" (if it has one) is so, and neither that nor its SUM is BROKEN.")
    static void clausesThatHold() {
        due(costBy("costs 7"), 7);
        due(costBy("costs 7 if 1=1"), 7);
        due(costBy("costs 7 if 1=2"), 2);
        due(costBy("costs 7 if 1/0=1"), 2);
        due(costBy("costs 7 if not 1/0=1"), 2);
        due(costBy("costs 1/0"), 2);
        due(costBy("costs 1/0 if 1=1"), 2);
        due(costBy("costs 1/0 if 1=2"), 2);
        due(costBy("costs 1000*1000*1000+1 if 1=1"), 2);
        JoinRouter x = new JoinRouter();
        String[] bars = {"bars", "bars if 1=1", "bars if 1=2", "bars if 1/0=1", "bars if not 1/0=1", "costs 5"};
        for (int i = 0; i < bars.length; i++) {
            due(law(x, bars[i]), i);
            x.force(i);
            due(x.come(0, 0, 0), i < 2 ? -3 : 1);
        }
    }

    @Says("An OPERATOR COSTS 0 .. 99 as the last \"costs\" that HOLDS tells (else the nearest), as many as it looks at without")
    static void costsToNinetyNine() {
        due(costBy("costs 0"), 0);
        due(costBy("costs 1"), 1);
        due(costBy("costs 98"), 98);
        due(costBy("costs 99"), 99);
        due(costBy("costs 100"), 99);
        due(costBy("costs 1000"), 99);
        due(costBy("costs 0-1"), 0);
        due(costBy("costs 0-1000"), 0);
        due(costBy("costs 1000*1000*1000"), 99);
        due(costBy("costs [0-1000]*1000*1000"), 0);
        due(costBy("costs 5; costs 6"), 6);
        due(costBy("costs 5; costs 6 if 1=2"), 5);
        due(costBy("costs 5; costs 6/0"), 5);
        due(costBy("costs 5; costs 6 if 1/0=1"), 5);
        due(costBy("costs 5; bars"), 5);
        due(costBy("bars"), 2);
        due(costBy("costs 5 if 1=2; costs 6 if 1=2"), 2);
    }

    @Says("a TUPLE is BARRED, if \"bars\" HOLDS.")
    static void barred() {
        JoinRouter x = new JoinRouter();
        due(law(x, "bars if a=0; costs 9; bars if b=9; bars if relation=2 and a+b=9"), 0);
        x.force(0);
        due(x.come(0, 0, 0), -3);
        due(x.come(0, 1, 9), -3);
        due(x.come(2, 1, 8), -3);
        due(x.come(1, 1, 8), 1);
        due(x.come(2, 1, 7), 1);
        due(row(x, 0, 0, 0, 0, 1, 9, 0, 1, 8), 1);
        due(x.strays(), 2);
        due(orders(x, "come 0 with 0 and 0"), -3);
        due(orders(x, "come 0 with 1 and 8"), 1);
        x.force(NONE);
        due(x.come(0, 0, 9), 1);
    }

    @Says("TEST: BOTH {\"or\" BOTH}. BOTH: PLAIN {\"and\" PLAIN}. PLAIN: \"not\" PLAIN | \"(\" TEST \")\"")
    static void testsWithinTests() {
        String yes = "1=1";
        String no = "1=2";
        // All of three, by "and" ahead of "or", "not" of the next one alone.
        for (int bits = 0; bits < 8; bits++) {
            boolean a = (bits & 1) != 0;
            boolean b = (bits & 2) != 0;
            boolean c = (bits & 4) != 0;
            String x = a ? yes : no;
            String y = b ? yes : no;
            String z = c ? yes : no;
            isSo(x + " or " + y + " and " + z, a || b && c);
            isSo(x + " and " + y + " or " + z, a && b || c);
            isSo("(" + x + " or " + y + ") and " + z, (a || b) && c);
            isSo(x + " and (" + y + " or " + z + ")", a && (b || c));
            isSo("not " + x + " or " + y, !a || b);
            isSo("not " + x + " and " + y, !a && b);
            isSo("not (" + x + " or " + y + ")", !(a || b));
            isSo("not not " + x + " and not " + y, a && !b);
            isSo("(" + x + ")or(" + y + ")or(" + z + ")", a || b || c);
            isSo(x + " and " + y + " and " + z, a && b && c);
        }
        // As many as there is room for.
        isSo(no + many(" or " + no, 22) + " or " + yes, true);
        isSo(yes + many(" and " + yes, 22) + " and " + no, false);
        isSo(many("not ", 40) + yes, true);
        isSo(many("not ", 41) + yes, false);
    }

    private static void isSo(String test, boolean isSo) {
        due(test, costBy("costs 50; costs 60 if " + test), isSo ? 60 : 50);
    }

    @Says("SUM: TERM {(\"+\" | \"-\") TERM}. TERM: PART {(\"*\" | \"/\" | \"%\") PART}.")
    static void sumsFromTheLeft() {
        String[] sum = {"20-3-4", "20-[3-4]", "20-3+4", "60/6/2", "60/[6/2]", "60/6*2", "60%7%3", "60%[7%4]", "7*9%5", "7*[9%5]", "2+3*4", "[2+3]*4", "2*3+4", "2*[3+4]",
            "20-6/4", "20-6%4", "[[[5]]]", "1+1+1+1+1+1+1+1", "90-1-1-1-1-1-1", "1*2*3*4", "9/2*2", "9*2/2"};
        int[] is = {13, 21, 21, 5, 20, 20, 1, 0, 3, 28, 14, 20, 10, 14, 19, 18, 5, 8, 84, 24, 8, 9};
        due(sum.length, is.length);
        for (int i = 0; i < sum.length; i++) {
            due(sum[i], costBy("costs " + sum[i]), is[i]);
        }
        due(costBy("costs 1" + many("+1", 49)), 50);
        due(costBy("costs 60" + many("-1", 49)), 11);
    }

    @Says("SUM (\"<\" | \">\" | \"=\") SUM.")
    static void comparedAtTheEdge() {
        int[] numbers = {-1, 0, 1};
        for (int d : numbers) {
            String two = "5" + (d < 0 ? "-1" : d > 0 ? "+1" : "");
            for (String sign : new String[] {"<", "=", ">"}) {
                boolean isSo = sign.equals("<") ? d < 0 : sign.equals("=") ? d == 0 : d > 0;
                if (isSo) {
                    so(two + sign + "5");
                } else {
                    notSo(two + sign + "5");
                }
            }
        }
        notSo("not 3<4");
        so("not 4<4");
        so("not 4>4");
        so("not 4=5");
        so("not not 4=4");
    }

    private static final String[] ALL_WORDS = ("tickets op relation a b size marks mood stamp done latest results operators held costs bars come strike window index with to "
            + "times if or and not field x none undo feed").split(" ");

    @Says("| a word, as told.")
    static void wordsAsParts() {
        String ofLaws = " op relation a b size tickets marks stamp mood ";
        String ofOrders = " stamp done latest results operators ";
        for (String word : ALL_WORDS) {
            boolean inLaws = ofLaws.contains(" " + word + " ");
            due(word, lawFault("costs " + word), inLaws ? NONE : 6);
            due(word, lawFault("bars if 1=" + word), inLaws ? NONE : 10);
            due(word, lawFault("bars if [" + word + "]=1"), inLaws ? NONE : 9);
            boolean inOrders = ofOrders.contains(" " + word + " ");
            boolean withMore = word.equals("held") || word.equals("tickets");
            due(word, ordersFault("strike " + word), inOrders ? NONE : withMore ? 7 + word.length() : 7);
            due(word, ordersFault("strike " + word + " 0"), inOrders ? 8 + word.length() : withMore ? NONE : 7);
        }
    }

    @Says("CLAUSE: (\"costs\" SUM | \"bars\") [\"if\" TEST].")
    static void wordsThatBeginLaws() {
        for (String word : ALL_WORDS) {
            int alone = word.equals("bars") ? NONE : word.equals("costs") ? 5 : 0;
            due(word, lawFault(word), alone);
            due(word, lawFault("bars;" + word), alone == NONE ? NONE : 5 + alone);
            due(word, lawFault("bars " + word), word.equals("if") ? 7 : 5);
            due(word, lawFault("costs 1 " + word), word.equals("if") ? 10 : 8);
            due(word, lawFault("bars if 1=1 " + word), word.equals("or") ? 14 : word.equals("and") ? 15 : 12);
            due(word, lawFault("bars if 1=1 " + word + ";bars"), word.equals("or") ? 14 : word.equals("and") ? 15 : 12);
            due(word, lawFault("bars if (1=1 " + word + ")"), word.equals("or") ? 15 : word.equals("and") ? 16 : 13);
        }
    }

    // ---- II: ORDERS

    @Says("CLAUSE: (\"come\" SUM \"with\" SUM \"and\" SUM | \"strike\" SUM | \"window\" SUM \"to\" SUM | \"index\" SUM \"to\" SUM) [\"times\" TIMES] [\"if\" TEST].")
    static void wordsThatBeginOrders() {
        for (String word : ALL_WORDS) {
            boolean begins = " come strike window index ".contains(" " + word + " ");
            due(word, ordersFault(word), begins ? word.length() : 0);
            due(word, ordersFault(word + " 0 to 1"), !begins ? 0 : word.equals("window") || word.equals("index") ? NONE : word.length() + 3);
            due(word, ordersFault(word + " 0"), !begins ? 0 : word.equals("strike") ? NONE : word.length() + 2);
            due(word, ordersFault("come 0 " + word + " 0 and 0"), word.equals("with") ? NONE : 7);
            due(word, ordersFault("come 0 with 0 " + word + " 0"), word.equals("and") ? NONE : 14);
            due(word, ordersFault("come 0 with 0 and 0 " + word), word.equals("times") ? 25 : word.equals("if") ? 22 : 20);
            due(word, ordersFault("window 0 " + word + " 0"), word.equals("to") ? NONE : 9);
            due(word, ordersFault("index 0 " + word + " 0"), word.equals("to") ? NONE : 8);
            due(word, ordersFault("strike 0 if 1=1 " + word), word.equals("or") ? 18 : word.equals("and") ? 19 : 16);
        }
    }

    @Says("TIMES: a NUMBER 1 .. 20.")
    static void timesToTwenty() {
        for (int n = 1; n <= 20; n++) {
            JoinRouter x = new JoinRouter();
            due(orders(x, "come 0 with 0 and 0 times " + n), n);
            due(x.count(1), n);
        }
        for (String n : new String[] {"0", "00", "21", "30", "100", "1000", "1001", "4294967297"}) {
            due(ordersFault("come 0 with 0 and 0 times " + n), 26);
        }
        due(ordersFault("come 0 with 0 and 0 times -1"), 26);
        due(ordersFault("come 0 with 0 and 0 times [1]"), 26);
        due(ordersFault("come 0 with 0 and 0 times done"), 26);
        due(ordersFault("come 0 with 0 and 0 times"), 25);
        due(ordersFault("come 0 with 0 and 0 times 20"), NONE);
        due(ordersFault("come 0 with 0 and 0 times 020"), NONE);
    }

    @Says("(R: a NUMBER 0 .. 2, O: 0 .. 3)")
    static void relationsAndOperatorsInOrders() {
        for (int n = 0; n <= 4; n++) {
            due(ordersFault("strike held " + n), n <= 2 ? NONE : 12);
            due(ordersFault("strike tickets " + n), n <= 3 ? NONE : 15);
            due(ordersFault("strike 0 if held " + n + "=0"), n <= 2 ? NONE : 17);
            due(ordersFault("strike 0 if 0=tickets " + n), n <= 3 ? NONE : 22);
        }
        due(ordersFault("strike held 4294967296"), 12);
        due(ordersFault("strike tickets 1000"), 15);
        due(ordersFault("strike held 0-1"), NONE);
        due(ordersFault("strike held -1"), 12);
    }

    @Says("R, O, TIMES aside, NUMBERS and words count as PARTS.")
    static void whatIsNoPart() {
        String fifty = "strike held 0" + many("+tickets 1", 24) + many("+1", 25);
        due(ordersFault(fifty), NONE);
        due(ordersFault(fifty + " times 20"), NONE);
        due(ordersFault(fifty + " times 21"), fifty.length() + 7);
        due(ordersFault(fifty + "+1"), fifty.length() + 1);
        due(ordersFault(fifty + "+held 0"), fifty.length() + 1);
        due(ordersFault(fifty + "+held 9"), fifty.length() + 1);
        due(ordersFault(fifty + "+stamp times 2"), fifty.length() + 1);
        String words = "strike done" + many("-done", 49);
        due(ordersFault(words), NONE);
        due(ordersFault(words + "-done"), words.length() + 1);
        String comes = "come 0 with 0 and 0 times 2 if 1=1" + many(";come 0 with 0 and 0 times 2 if 1=1", 9);
        due(ordersFault(comes), NONE);
        due(ordersFault(comes + ";strike 0"), comes.length() + 8);
    }

    @Says("(a RELATION, both FIELDS; an OPERATOR; a RELATION, a WINDOW; a RELATION, an INDEX.)")
    static void whichSumIsWhich() {
        JoinRouter x = new JoinRouter();
        x.filter(0, 0, 0, 1);
        x.filter(0, 0, 0, 2);
        x.filter(0, 0, 0, 3);
        due(orders(x, "come 2 with 3 and 4; window 1 to 2; index 2 to 0; strike 1"), 4);
        due(x.tuple(2, 0, 0), 3);
        due(x.tuple(2, 0, 1), 4);
        due(x.relation(1, 0), 2);
        due(x.relation(2, 0), 4);
        due(x.relation(2, 1), 0);
        due(x.relation(0, 1), 2);
        due(x.count(0), 2);
        due(x.operator(1, 4), 3);
        due(x.operator(0, 4), 1);
    }

    @Says("Run CLAUSE by CLAUSE")
    static void clauseByClause() {
        JoinRouter x = new JoinRouter();
        due(orders(x, "come 0 with 1 and 1 times 2; come 1 with 2 and 2; come 0 with 3 and 3 times 2"), 5);
        int[] first = {1, 1, 3, 3};
        int[] stamp = {1, 2, 4, 5};
        for (int i = 0; i < 4; i++) {
            due(x.tuple(0, i, 0), first[i]);
            due(x.tuple(0, i, 2), stamp[i]);
        }
        due(x.tuple(1, 0, 2), 3);
    }

    @Says("each as often as TIMES tell (once without)")
    static void asOften() {
        JoinRouter x = new JoinRouter();
        due(orders(x, "come 0 with 0 and 0"), 1);
        due(orders(x, "come 0 with 0 and 0 times 1"), 1);
        due(orders(x, "come 0 with 0 and 0 times 2; come 1 with 1 and 1 times 3"), 5);
        due(x.count(1), 7);
        due(x.tuple(1, 0, 2), 5);
        for (int i = 0; i < 4; i++) {
            x.filter(0, 0, 0, 9);
        }
        due(orders(x, "strike 0 times 5"), -3);
        due(x.count(0), 4);
        due(orders(x, "strike 0 times 4"), 4);
        due(x.count(0), 0);
        due(orders(x, "window 0 to 5 times 2"), -3);
        due(orders(x, "window 0 to done+5 times 5"), 5);
        due(x.relation(0, 0), 9);
    }

    @Says("each time its \"if\" is asked (not run, if it is not so or BROKEN), then its SUMS from the left.")
    static void askedEachTime() {
        JoinRouter x = new JoinRouter();
        due(orders(x, "come 0 with 0 and 0 times 20 if stamp<3"), 3);
        due(orders(x, "come 0 with 0 and 0 times 20 if stamp<3"), 0);
        due(x.status(), 0);
        due(orders(x, "come 9 with 0 and 0 if 1=2; strike 9 times 20 if 1/0=1; window 9 to 9 if 1000*1000*1000+1>0; strike 1/0 if 1=2"), 0);
        due(x.stopped(), NONE);
        // Not run, and not done with: the second time it is so.
        due(orders(x, "come 0 with 0 and 0 times 3 if 6/[3-stamp]<1000"), 0);
        due(orders(x, "come 0 with done and held 0+done times 2"), 2);
        due(x.tuple(0, 3, 0), 1);
        due(x.tuple(0, 3, 1), 5);
        due(x.tuple(0, 2, 0), 0);
        due(x.tuple(0, 2, 1), 3);
    }

    @Says("stamp: that of the latest TUPLE (0: none)")
    static void stampInOrders() {
        JoinRouter x = new JoinRouter();
        due(orders(x, "window 0 to 1 if stamp=0; come 0 with 0 and 0; window 0 to 2 if stamp=1"), 3);
        x.undo();
        x.undo();
        due(orders(x, "window 0 to 3 if stamp=0"), 1);
    }

    @Says("done: how many were run in this TEXT")
    static void doneInOrders() {
        JoinRouter x = new JoinRouter();
        due(orders(x, "window 0 to 1 if done=1; window 0 to 1 if done=0; window 0 to 2 if done=0; window 0 to 3 if done=1; index 0 to 1 if done=2"), 3);
        due(x.relation(0, 0), 3);
        due(x.relation(0, 1), 1);
        due(orders(x, "window 1 to done+1"), 1);
        due(x.relation(1, 0), 1);
    }

    @Says("latest: what the latest come in it told (-1: none)")
    static void latestInOrders() {
        JoinRouter x = new JoinRouter();
        x.come(0, 0, 0);
        due(orders(x, "window 0 to 1 if latest=0-1"), 1);
        due(orders(x, "come 0 with 0 and 0; window 0 to 2 if latest=1"), 2);
        due(orders(x, "window 0 to 3 if latest=0-1; index 0 to 0 if latest=0-1"), 2);
        x.filter(1, 0, 0, 5);
        due(orders(x, "come 1 with 0 and 0; come 1 with 9 and latest; window 1 to 1 if latest=0"), 3);
    }

    @Says("results: how many RESULTS there were ever")
    static void resultsInOrders() {
        JoinRouter x = new JoinRouter();
        due(orders(x, "window 0 to 1 if results=0; come 0 with 0 and 0 times 3; window 0 to 2 if results=3"), 5);
        row(x, 1, 1, 1);
        due(orders(x, "window 0 to 3 if results=4"), 1);
        x.come(0, 0, 0);
        x.undo();
        due(orders(x, "window 0 to 4 if results=4"), 1);
    }

    @Says("held: how many TUPLES a STATE has")
    static void heldInOrders() {
        JoinRouter x = new JoinRouter();
        due(orders(x, "window 0 to 9 if held 0=0 and held 1=0 and held 2=0"), 1);
        due(orders(x, "come 0 with 0 and held 0 times 10"), 10);
        due(x.tuple(0, 8, 1), 9);
        due(x.tuple(0, 7, 1), 8);
        due(orders(x, "come 1 with held 0 and held 1; come 2 with held 1 and held 2; window 0 to 1; come 1 with held 0 and held 2"), 4);
        due(x.tuple(1, 0, 0), 9);
        due(x.tuple(1, 0, 1), 0);
        due(x.tuple(2, 0, 0), 1);
        due(x.tuple(1, 1, 0), 1);
        due(x.tuple(1, 1, 1), 1);
    }

    @Says("tickets: of an OPERATOR (-1000 without such a one)")
    static void ticketsInOrders() {
        JoinRouter x = new JoinRouter();
        for (int n = 0; n < 4; n++) {
            for (int o = 0; o < 4; o++) {
                due(orders(x, "index 0 to 1 if tickets " + o + (o < n ? "=0" : "=0-1000") + "; index 0 to 2 if operators=" + n), 2);
            }
            x.filter(0, 0, 1, 9);
        }
        due(orders(x, "come 0 with 0 and 0; window 0 to 1 if tickets 0=1; strike 3; window 0 to 2 if tickets 3=0-1000; window 0 to 3 if operators=3"), 5);
        // Below 0 they are told as they are.
        JoinRouter y = new JoinRouter();
        comeAll(y, 1, 3, 0, 3, 1, 3, 2);
        y.join(0, 0, 1, 0);
        due(orders(y, "come 0 with 3 and 0; window 0 to 1 if tickets 0=0-2"), 2);
    }

    @Says("One that can't be (a BROKEN SUM, as come(), strike(), window(), index() are REFUSED) ends it: all is as it was ahead of it.")
    static void whatEndsOrders() {
        String[] last = {"come 3 with 0 and 0", "come 0-1 with 0 and 0", "come 0 with 10 and 0", "come 0 with 0 and 10", "come 0 with 0-1 and 0", "come 0 with 0 and 0-1",
            "come 0 with 8 and 0", "come 2 with 2 and 2", "strike 0-1", "strike 2", "strike 1000", "window 3 to 1", "window 0-1 to 1", "window 0 to 0", "window 0 to 10",
            "window 0 to 5", "index 3 to 0", "index 0-1 to 0", "index 0 to 0-1", "index 0 to 3", "index 0 to 0", "come 1/0 with 0 and 0", "come 0 with 1%0 and 0",
            "come 0 with 0 and 1/0", "strike 0/0", "window 1/0 to 1", "window 0 to 1/0", "index 1/0 to 1", "index 0 to 1/0", "strike 1000*1000*1000+1",
            "strike 1000*1000*1000", "strike 0-1000*1000*1000"};
        for (String text : last) {
            JoinRouter x = ready();
            due(orders(x, "come 0 with 1 and 1; window 0 to 5; index 0 to 0; strike 0; " + text + "; come 1 with 1 and 1"), -3);
            due(x.stopped(), 4);
            due(x.status(), -3);
            Map<String, Long> want = photo(ready());
            want.put("stopped()", 4L);
            due(photo(x), want);
            due(x.count(7) + x.count(8) + x.count(10) + x.count(11), 0);
            due(x.count(9), 1);
            JoinRouter y = ready();
            for (int i = 0; i < 8; i++) {
                due(x.undo(), y.undo());
                due(x.count(0) * 10 + x.count(1), y.count(0) * 10 + y.count(1));
            }
            due(x.undo(), -3);
        }
    }

    /** A STATE of 2 that is dear to look at, a LAW that bars a=8. */
    private static JoinRouter ready() {
        JoinRouter x = new JoinRouter();
        x.filter(0, 1, 0, 9);
        x.join(0, 0, 1, 0);
        x.filter(2, 0, 0, 9);
        comeAll(x, 1, 1, 1, 1, 2);
        comeAll(x, 0, 1, 3, 8, 8);
        law(x, "costs 99; costs 1 if relation<2; bars if a=8");
        x.force(0);
        x.terms(0, 98);
        x.come(0, 1, 4);
        return x;
    }
}
