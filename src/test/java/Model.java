import java.util.ArrayDeque;
import java.util.ArrayList;
import java.util.Arrays;
import java.util.List;
import java.util.Map;
import java.util.TreeMap;
import java.util.function.Function;

/**
 * The document once more, written for reading and not for the rules of LANGUAGE.md: trees instead of code, exceptions
 * instead of tests, copies of the whole instead of rows that are used again. ModelTest asks both the same.
 */
final class Model {
    static final int NONE = -1;
    static final int NOTHING = -1000;

    // ---- what there is

    record Tup(int relation, int a, int b, int stamp) {
        int field(int f) {
            return f == 0 ? a : b;
        }

        int fact(int f) {
            return f == 0 ? relation : field(f - 1);
        }
    }

    record Op(boolean filter, int relation, int field, int third, int fourth, int tickets) {
        Op with(int t) {
            return new Op(filter, relation, field, third, fourth, t);
        }
    }

    static final class World {
        List<Op> ops = new ArrayList<>();
        List<List<Tup>> states = new ArrayList<>(List.of(List.of(), List.of(), List.of()));
        int[] window = {4, 4, 4};
        int[] index = {2, 2, 2};
        int stamp = 0;
        int results = 0;

        World copy() {
            World w = new World();
            w.ops = new ArrayList<>(ops);
            w.states = new ArrayList<>(states);
            w.window = window.clone();
            w.index = index.clone();
            w.stamp = stamp;
            w.results = results;
            return w;
        }

        void cut(int r) {
            List<Tup> all = states.get(r);
            states.set(r, List.copyOf(all.subList(Math.max(0, all.size() - window[r]), all.size())));
        }
    }

    record Undo(int kind, World before) {
    }

    record Image(World world, int[] terms, List<int[]> seen, List<List<Clause>> laws, int force) {
    }

    World world = new World();
    int[] terms = {999, 1, 0};
    List<int[]> seenFacts = new ArrayList<>();
    List<List<Clause>> laws = new ArrayList<>();
    int force = NONE;
    ArrayDeque<Undo> undos = new ArrayDeque<>();
    Image[] images = new Image[2];
    List<Integer> tape = new ArrayList<>();
    int fault = NONE;
    int strays = 0;
    int stopped = NONE;
    int status = 0;
    Map<Integer, Integer> refused = new TreeMap<>();
    List<int[]> latestResults = List.of();
    List<Integer> latestShut = List.of();
    int latestDeepest = 0;
    World drawn = null;

    int no(int by) {
        status = by;
        refused.merge(by, 1, Integer::sum);
        return by;
    }

    int yes(int answer) {
        status = 0;
        return answer;
    }

    // ---- TEXTS

    static final class Broken extends RuntimeException {
        private static final long serialVersionUID = 1L;
    }

    static final class Fault extends RuntimeException {
        private static final long serialVersionUID = 1L;
        final int place;

        Fault(int place) {
            this.place = place;
        }
    }

    interface Words extends Function<String, Integer> {
    }

    interface Sum {
        long of(Words w);
    }

    interface Test {
        boolean of(Words w);
    }

    record Clause(String kind, List<Sum> sums, int times, Test test) {
        /** Not so, too, if it is BROKEN. */
        boolean asked(Words w) {
            try {
                return test.of(w);
            } catch (Broken e) {
                return false;
            }
        }
    }

    record Token(String text, int place) {
    }

    static final class Parser {
        final boolean law;
        final List<Token> tokens = new ArrayList<>();
        int at = 0;
        int parts = 0;

        Parser(List<Integer> bytes, boolean law) {
            this.law = law;
            StringBuilder b = new StringBuilder();
            for (int x : bytes) {
                b.append((char) x);
            }
            java.util.regex.Matcher m = java.util.regex.Pattern.compile("[a-z]+|[0-9]+|[^ ]", java.util.regex.Pattern.DOTALL).matcher(b);
            while (m.find()) {
                tokens.add(new Token(m.group(), m.start()));
            }
            tokens.add(new Token("", bytes.size()));
        }

        String peek() {
            return tokens.get(at).text();
        }

        Fault bad() {
            return new Fault(tokens.get(at).place());
        }

        boolean take(String t) {
            if (peek().equals(t)) {
                at++;
                return true;
            }
            return false;
        }

        void need(String t) {
            if (!take(t)) {
                throw bad();
            }
        }

        int number(int least, int most) {
            if (!peek().matches("[0-9]+")) {
                throw bad();
            }
            java.math.BigInteger n = new java.math.BigInteger(peek());
            if (n.compareTo(java.math.BigInteger.valueOf(least)) < 0 || n.compareTo(java.math.BigInteger.valueOf(most)) > 0) {
                throw bad();
            }
            at++;
            return n.intValue();
        }

        List<Clause> text() {
            List<Clause> all = new ArrayList<>();
            do {
                if (all.size() == 12) {
                    throw bad();
                }
                all.add(clause());
            } while (take(";"));
            need("");
            return all;
        }

        Clause clause() {
            String kind = peek();
            List<Sum> sums = new ArrayList<>();
            int times = 1;
            if (!(law ? List.of("costs", "bars") : List.of("come", "strike", "window", "index")).contains(kind)) {
                throw bad();
            }
            at++;
            if (!kind.equals("bars")) {
                sums.add(sum(0));
            }
            if (kind.equals("come")) {
                need("with");
                sums.add(sum(0));
                need("and");
                sums.add(sum(0));
            }
            if (kind.equals("window") || kind.equals("index")) {
                need("to");
                sums.add(sum(0));
            }
            if (!law && take("times")) {
                times = number(1, 20);
            }
            Test test = w -> true;
            if (take("if")) {
                test = test(0);
            }
            return new Clause(kind, sums, times, test);
        }

        Test test(int depth) {
            Test left = both(depth);
            while (take("or")) {
                Test l = left;
                Test r = both(depth);
                left = w -> l.of(w) || r.of(w);
            }
            return left;
        }

        Test both(int depth) {
            Test left = plain(depth);
            while (take("and")) {
                Test l = left;
                Test r = plain(depth);
                left = w -> l.of(w) && r.of(w);
            }
            return left;
        }

        Test plain(int depth) {
            if (take("not")) {
                Test inner = plain(depth);
                return w -> !inner.of(w);
            }
            if (peek().equals("(")) {
                if (depth == 8) {
                    throw bad();
                }
                at++;
                Test inner = test(depth + 1);
                need(")");
                return inner;
            }
            Sum l = sum(depth);
            String by = peek();
            if (!List.of("<", ">", "=").contains(by)) {
                throw bad();
            }
            at++;
            Sum r = sum(depth);
            return w -> {
                int c = Long.compare(l.of(w), r.of(w));
                return by.equals("<") ? c < 0 : by.equals(">") ? c > 0 : c == 0;
            };
        }

        static long near(long x) {
            if (Math.abs(x) > 1_000_000_000L) {
                throw new Broken();
            }
            return x;
        }

        static long some(long x) {
            if (x == 0) {
                throw new Broken();
            }
            return x;
        }

        Sum sum(int depth) {
            Sum left = term(depth);
            while (List.of("+", "-").contains(peek())) {
                boolean plus = take("+") || !take("-");
                Sum l = left;
                Sum r = term(depth);
                left = w -> near(l.of(w) + (plus ? r.of(w) : -r.of(w)));
            }
            return left;
        }

        Sum term(int depth) {
            Sum left = part(depth);
            while (List.of("*", "/", "%").contains(peek())) {
                String by = peek();
                at++;
                Sum l = left;
                Sum r = part(depth);
                left = w -> {
                    long x = l.of(w);
                    long y = r.of(w);
                    return near(by.equals("*") ? x * y : by.equals("/") ? x / some(y) : x % some(y));
                };
            }
            return left;
        }

        Sum part(int depth) {
            if (peek().equals("[")) {
                if (depth == 8) {
                    throw bad();
                }
                at++;
                Sum inner = sum(depth + 1);
                need("]");
                return inner;
            }
            if (parts == 50) {
                throw bad();
            }
            String t = peek();
            if (t.matches("[0-9]+")) {
                int n = number(0, 1000);
                parts++;
                return w -> n;
            }
            List<String> words = law ? List.of("op", "relation", "a", "b", "size", "tickets", "marks", "stamp", "mood")
                    : List.of("stamp", "done", "latest", "results", "operators", "held", "tickets");
            if (!words.contains(t)) {
                throw bad();
            }
            parts++;
            at++;
            String word = law ? t : t.equals("held") ? t + number(0, 2) : t.equals("tickets") ? t + number(0, 3) : t;
            return w -> w.apply(word);
        }
    }

    // ---- COMING

    static final class GivenUp extends RuntimeException {
        private static final long serialVersionUID = 1L;
    }

    /** One TUPLE's way. */
    final class Way {
        final World w;
        final List<Clause> law;
        final int budget;
        final List<Integer> order;
        final Tup tup;
        final int[] tickets;
        final List<int[]> results = new ArrayList<>();
        final List<Integer> shut = new ArrayList<>();
        int open = 0;
        int deepest = 0;
        int cost = 0;

        Way(World w, List<Clause> law, int budget, List<Integer> order, Tup tup) {
            this.w = w;
            this.law = law;
            this.budget = budget;
            this.order = order;
            this.tup = tup;
            this.tickets = w.ops.stream().mapToInt(Op::tickets).toArray();
        }

        int word(String name, int op, int size, int tick, int marks) {
            switch (name) {
                case "op":
                    return op;
                case "relation":
                    return tup.relation();
                case "a":
                    return tup.a();
                case "b":
                    return tup.b();
                case "size":
                    return size;
                case "tickets":
                    return tick;
                case "marks":
                    return marks;
                case "stamp":
                    return tup.stamp();
                default:
                    return terms[2];
            }
        }

        boolean barred() {
            return law.stream().anyMatch(c -> c.kind().equals("bars") && c.asked(n -> word(n, -1, -1, -1, -1)));
        }

        int costs(int op, int size, int marks) {
            int answer = size;
            int tick = tickets[op];
            for (Clause c : law) {
                Words words = n -> word(n, op, size, tick, marks);
                if (c.kind().equals("costs") && c.asked(words)) {
                    try {
                        answer = (int) Math.max(0, Math.min(99, c.sums().get(0).of(words)));
                    } catch (Broken e) {
                        continue;
                    }
                }
            }
            return answer;
        }

        void go(Map<Integer, Tup> tuples, List<Integer> marks) {
            if (marks.size() == w.ops.size()) {
                int[] stamps = new int[3];
                tuples.forEach((r, t) -> stamps[r] = t.stamp());
                results.add(stamps);
                return;
            }
            List<Integer> open = new ArrayList<>();
            for (int o = 0; o < w.ops.size(); o++) {
                Op op = w.ops.get(o);
                if (!marks.contains(o) && (tuples.containsKey(op.relation()) || !op.filter() && tuples.containsKey(op.third()))) {
                    open.add(o);
                }
            }
            if (open.isEmpty()) {
                return;
            }
            int o = order != null ? order.stream().filter(open::contains).findFirst().get()
                    : open.stream().reduce((x, y) -> tickets[y] > tickets[x] ? y : x).get();
            takes(o, tuples, marks);
        }

        void takes(int o, Map<Integer, Tup> tuples, List<Integer> marks) {
            Op op = w.ops.get(o);
            List<Integer> marked = new ArrayList<>(marks);
            marked.add(o);
            if (op.filter() || tuples.containsKey(op.relation()) && tuples.containsKey(op.third())) {
                pay(costs(o, 1, marks.size()));
                tickets[o]++;
                int v = tuples.get(op.relation()).field(op.field());
                boolean so = !op.filter() ? v == tuples.get(op.third()).field(op.fourth())
                        : op.third() == 0 ? v < op.fourth() : op.third() == 1 ? v == op.fourth() : v > op.fourth();
                if (so) {
                    tickets[o]--;
                    go(tuples, marked);
                }
                return;
            }
            boolean first = tuples.containsKey(op.relation());
            int v = first ? tuples.get(op.relation()).field(op.field()) : tuples.get(op.third()).field(op.fourth());
            int other = first ? op.third() : op.relation();
            int f = first ? op.fourth() : op.field();
            List<Tup> looked = new ArrayList<>(w.states.get(other));
            if (w.index[other] == f) {
                looked.removeIf(t -> bucket(t.field(f)) != bucket(v));
            }
            pay(costs(o, looked.size(), marks.size()));
            tickets[o]++;
            open++;
            deepest = Math.max(deepest, open);
            try {
                for (Tup t : looked) {
                    if (t.field(f) == v) {
                        Map<Integer, Tup> more = new TreeMap<>(tuples);
                        more.put(other, t);
                        tickets[o]--;
                        go(more, marked);
                    }
                }
            } finally {
                open--;
                shut.add(other);
            }
        }

        void pay(int more) {
            if (cost + more > budget) {
                throw new GivenUp();
            }
            cost += more;
        }

        Way run() {
            go(Map.of(tup.relation(), tup), List.of());
            return this;
        }
    }

    static int bucket(int v) {
        return (v * v * 7 + 3) % 5;
    }

    List<Clause> lawOf(int k) {
        return k == NONE ? List.of() : laws.get(k);
    }

    static boolean in(int x, int least, int most) {
        return x >= least && x <= most;
    }

    static boolean tupleCan(int r, int a, int b) {
        return in(r, 0, 2) && in(a, 0, 9) && in(b, 0, 9);
    }

    /** How many RESULTS, or what it is REFUSED by; what it leaves of come() goes to the latest, if it is one. */
    int comes(World w, boolean call, boolean undoable, int r, int a, int b) {
        if (!tupleCan(r, a, b)) {
            return -1;
        }
        Way way = new Way(w, lawOf(force), terms[0], null, new Tup(r, a, b, w.stamp + 1));
        if (w.stamp == 999 || way.barred()) {
            return -3;
        }
        boolean done = true;
        try {
            way.run();
        } catch (GivenUp e) {
            done = false;
        }
        if (call) {
            latestShut = way.shut;
            latestDeepest = way.deepest;
        }
        if (!done) {
            return -5;
        }
        if (call) {
            latestResults = way.results;
        }
        if (undoable) {
            keep(0);
        }
        for (int o = 0; o < w.ops.size(); o++) {
            w.ops.set(o, w.ops.get(o).with(way.tickets[o]));
        }
        w.stamp++;
        w.results += way.results.size();
        List<Tup> state = new ArrayList<>(w.states.get(r));
        state.add(way.tup);
        w.states.set(r, state);
        w.cut(r);
        return way.results.size();
    }

    void keep(int kind) {
        undos.addLast(new Undo(kind, world.copy()));
        if (undos.size() > 16) {
            undos.removeFirst();
        }
    }

    int strikes(int o) {
        if (!in(o, 0, world.ops.size() - 1)) {
            return -2;
        }
        keep(2);
        world.ops.remove(o);
        return world.ops.size();
    }

    int windows(int r, int n) {
        if (!in(r, 0, 2) || !in(n, 1, 9)) {
            return -1;
        }
        if (world.window[r] == n) {
            return -3;
        }
        keep(3);
        int had = world.states.get(r).size();
        world.window[r] = n;
        world.cut(r);
        return had - world.states.get(r).size();
    }

    int indexes(int r, int n) {
        if (!in(r, 0, 2) || !in(n, 0, 2)) {
            return -1;
        }
        int was = world.index[r];
        if (was == n) {
            return -3;
        }
        keep(4);
        world.index[r] = n;
        return was;
    }

    // ---- the face

    int join(int one, int field, int other, int otherField) {
        return tells(in(one, 0, 2) && in(field, 0, 1) && in(other, 0, 2) && in(otherField, 0, 1) && one != other,
                new Op(false, one, field, other, otherField, 0));
    }

    int filter(int relation, int field, int kind, int number) {
        return tells(in(relation, 0, 2) && in(field, 0, 1) && in(kind, 0, 2) && in(number, 0, 9),
                new Op(true, relation, field, kind, number, 0));
    }

    int tells(boolean can, Op op) {
        if (!can) {
            return no(-1);
        }
        if (world.ops.size() == 4) {
            return no(-5);
        }
        keep(1);
        world.ops.add(op);
        return yes(world.ops.size() - 1);
    }

    int operator(int o, int what) {
        if (!in(o, 0, world.ops.size() - 1) || !in(what, 0, 5)) {
            return NOTHING;
        }
        Op op = world.ops.get(o);
        return new int[] {op.filter() ? 1 : 0, op.relation(), op.field(), op.third(), op.fourth(), op.tickets()}[what];
    }

    int relation(int r, int what) {
        if (!in(r, 0, 2) || !in(what, 0, 2)) {
            return NONE;
        }
        return new int[] {world.window[r], world.index[r], world.states.get(r).size()}[what];
    }

    int tuple(int r, int i, int what) {
        if (!in(r, 0, 2) || !in(what, 0, 2) || !in(i, 0, world.states.get(r).size() - 1)) {
            return NONE;
        }
        Tup t = world.states.get(r).get(i);
        return new int[] {t.a(), t.b(), t.stamp()}[what];
    }

    int terms(int what, int value) {
        int[][] can = {{1, 999}, {0, 10}, {0, 9}};
        if (!in(what, 0, 2) || !in(value, can[what][0], can[what][1])) {
            return no(-1);
        }
        int was = terms[what];
        terms[what] = value;
        return yes(was);
    }

    int feed(int... five) {
        if (tape.size() > 380) {
            return NONE;
        }
        for (int x : five) {
            tape.addAll(List.of(x >>> 24, x >>> 16 & 255, x >>> 8 & 255, x & 255));
        }
        return tape.size();
    }

    int end(int n) {
        if (!in(n, 0, tape.size())) {
            return NONE;
        }
        tape = new ArrayList<>(tape.subList(0, n));
        return n;
    }

    int row() {
        if (tape.isEmpty()) {
            return no(-6);
        }
        int came = 0;
        strays = 0;
        for (int i = 0; i < tape.size(); i += 3) {
            if (i + 3 <= tape.size() && comes(world, false, false, tape.get(i), tape.get(i + 1), tape.get(i + 2)) >= 0) {
                came++;
            } else {
                strays++;
            }
        }
        tape = new ArrayList<>();
        undos.clear();
        return yes(came);
    }

    List<Clause> reads(boolean law) {
        List<Integer> bytes = tape;
        tape = new ArrayList<>();
        try {
            List<Clause> clauses = new Parser(bytes, law).text();
            fault = NONE;
            return clauses;
        } catch (Fault e) {
            fault = e.place;
            return null;
        }
    }

    int law() {
        if (laws.size() == 6) {
            tape = new ArrayList<>();
            return no(-5);
        }
        List<Clause> clauses = reads(true);
        if (clauses == null) {
            return no(-6);
        }
        laws.add(clauses);
        return yes(laws.size() - 1);
    }

    int orders() {
        stopped = NONE;
        List<Clause> clauses = reads(false);
        if (clauses == null) {
            return no(-6);
        }
        World before = world.copy();
        ArrayDeque<Undo> undosBefore = new ArrayDeque<>(undos);
        int done = 0;
        int latest = -1;
        for (int c = 0; c < clauses.size(); c++) {
            Clause clause = clauses.get(c);
            for (int t = 0; t < clause.times(); t++) {
                int d = done;
                int l = latest;
                Words words = n -> orderWord(n, d, l);
                if (!clause.asked(words)) {
                    continue;
                }
                int answer = obeys(clause, words);
                if (answer < 0) {
                    stopped = c;
                    world = before;
                    undos = undosBefore;
                    return no(-3);
                }
                done++;
                latest = clause.kind().equals("come") ? answer : latest;
            }
        }
        return yes(done);
    }

    int orderWord(String name, int done, int latest) {
        if (name.startsWith("held")) {
            return world.states.get(name.charAt(4) - '0').size();
        }
        if (name.startsWith("tickets")) {
            return operator(name.charAt(7) - '0', 5);
        }
        return Map.of("stamp", world.stamp, "done", done, "latest", latest, "results", world.results, "operators", world.ops.size()).get(name);
    }

    int obeys(Clause clause, Words words) {
        int[] n = new int[3];
        try {
            for (int i = 0; i < clause.sums().size(); i++) {
                n[i] = (int) clause.sums().get(i).of(words);
            }
        } catch (Broken e) {
            return -3;
        }
        switch (clause.kind()) {
            case "come":
                return comes(world, false, true, n[0], n[1], n[2]);
            case "strike":
                return strikes(n[0]);
            case "window":
                return windows(n[0], n[1]);
            default:
                return indexes(n[0], n[1]);
        }
    }

    int force(int law) {
        if (!in(law, -1, laws.size() - 1)) {
            return no(-2);
        }
        int was = force;
        force = law;
        return yes(was);
    }

    int told(int answer) {
        return answer < 0 ? no(answer) : yes(answer);
    }

    int come(int r, int a, int b) {
        return told(comes(world, true, true, r, a, b));
    }

    int strike(int o) {
        return told(strikes(o));
    }

    int window(int r, int n) {
        return told(windows(r, n));
    }

    int index(int r, int n) {
        return told(indexes(r, n));
    }

    int undo() {
        if (undos.isEmpty()) {
            return no(-3);
        }
        Undo u = undos.removeLast();
        world = u.before();
        return yes(u.kind());
    }

    int result(int i, int r) {
        if (!in(i, 0, Math.min(99, latestResults.size()) - 1) || !in(r, 0, 2) || latestResults.get(i)[r] == 0) {
            return NONE;
        }
        return latestResults.get(i)[r];
    }

    int shut(int i) {
        return in(i, 0, Math.min(99, latestShut.size()) - 1) ? latestShut.get(i) : NONE;
    }

    int brings(int r, int a, int b, int what) {
        if (!tupleCan(r, a, b) || !in(what, 0, 1)) {
            return NONE;
        }
        Way way = paper(world, lawOf(force), null, r, a, b);
        return what == 0 ? way.results.size() : way.cost;
    }

    Way paper(World w, List<Clause> law, List<Integer> order, int r, int a, int b) {
        return new Way(w, law, Integer.MAX_VALUE / 2, order, new Tup(r, a, b, w.stamp + 1)).run();
    }

    static void allOrders(List<Integer> sofar, int n, List<List<Integer>> into) {
        if (sofar.size() == n) {
            into.add(List.copyOf(sofar));
        }
        for (int i = 0; i < n; i++) {
            if (!sofar.contains(i)) {
                List<Integer> more = new ArrayList<>(sofar);
                more.add(i);
                allOrders(more, n, into);
            }
        }
    }

    int cheapest(int r, int a, int b, int i) {
        if (!tupleCan(r, a, b) || !in(i, -1, world.ops.size() - 1)) {
            return NONE;
        }
        List<List<Integer>> orders = new ArrayList<>();
        allOrders(List.of(), world.ops.size(), orders);
        int least = Integer.MAX_VALUE;
        List<Integer> best = null;
        for (List<Integer> o : orders) {
            int cost = paper(world, lawOf(force), o, r, a, b).cost;
            if (cost < least) {
                least = cost;
                best = o;
            }
        }
        return i == -1 ? least : best.get(i);
    }

    int regret(int r, int a, int b) {
        return tupleCan(r, a, b) ? brings(r, a, b, 1) - cheapest(r, a, b, -1) : NONE;
    }

    int bestIndex(int of, int r, int a, int b) {
        if (!in(of, 0, 2) || !tupleCan(r, a, b)) {
            return NONE;
        }
        int[] costs = new int[3];
        for (int i = 0; i < 3; i++) {
            World w = world.copy();
            w.index[of] = i;
            costs[i] = paper(w, lawOf(force), null, r, a, b).cost;
        }
        int least = Arrays.stream(costs).min().getAsInt();
        return costs[0] == least ? 0 : costs[1] == least ? 1 : 2;
    }

    int seen(int fact, int n) {
        if (!in(fact, 0, 2) || !in(n, 0, 9)) {
            return no(-1);
        }
        if (seenFacts.size() == 6) {
            return no(-5);
        }
        seenFacts.add(new int[] {fact, n});
        return yes(seenFacts.size());
    }

    int forget() {
        int was = seenFacts.size();
        seenFacts = new ArrayList<>();
        return was;
    }

    List<Tup> possible() {
        List<Tup> all = new ArrayList<>();
        world.states.forEach(all::addAll);
        all.removeIf(t -> seenFacts.stream().anyMatch(s -> t.fact(s[0]) != s[1]));
        return all;
    }

    int canBe(int i) {
        List<Tup> all = possible();
        return i == NONE ? all.size() : in(i, 0, all.size() - 1) ? all.get(i).stamp() : NONE;
    }

    int ask(int what) {
        List<Tup> all = possible();
        if (!in(what, 0, 1) || all.isEmpty()) {
            return NONE;
        }
        int[] most = new int[3];
        for (int f = 0; f < 3; f++) {
            int fact = f;
            for (Tup t : all) {
                most[f] = Math.max(most[f], (int) all.stream().filter(u -> u.fact(fact) == t.fact(fact)).count());
            }
        }
        int least = Arrays.stream(most).min().getAsInt();
        return what == 1 ? least : most[0] == least ? 0 : most[1] == least ? 1 : 2;
    }

    long few(int k, int n) {
        if (!in(k, 1, 20) || !in(n, 0, 99)) {
            return NONE;
        }
        long[] parts = new long[200];
        parts[0] = 1_000_000_000_000L;
        for (int i = 0; i < n; i++) {
            long[] next = new long[200];
            for (int j = 0; j < 150; j++) {
                next[j] += parts[j] * (10 - terms[1]) / 10;
                next[j + 1] += parts[j] * terms[1] / 10;
            }
            parts = next;
        }
        return Arrays.stream(parts, 0, k).sum();
    }

    int compare(int law, int r, int a, int b) {
        return in(law, -1, laws.size() - 1) && tupleCan(r, a, b) ? paper(world, lawOf(law), null, r, a, b).cost : NONE;
    }

    int days(int seed, int n) {
        if (!in(seed, 0, 1_000_000) || !in(n, 1, 60)) {
            return no(-1);
        }
        drawn = world.copy();
        long s = seed;
        int all = 0;
        for (int i = 0; i < n; i++) {
            int[] d = new int[4];
            int[] of = {3, 4, 4, 8};
            for (int j = 0; j < 4; j++) {
                s = (s * 1103 + 12345) % 1_000_003;
                d[j] = (int) (s % of[j]);
            }
            if (d[3] == 7) {
                drawn.window[d[0]] = d[1] + 2;
                drawn.cut(d[0]);
            } else {
                all += Math.max(0, comes(drawn, false, false, d[0], d[1], d[2]));
            }
        }
        return yes(all);
    }

    int drawn(int k, int what) {
        if (drawn == null || !in(what, 0, 1) || !in(k, 0, what == 0 ? drawn.ops.size() - 1 : 2)) {
            return NOTHING;
        }
        return what == 0 ? drawn.ops.get(k).tickets() : drawn.states.get(k).size();
    }

    int image(int k) {
        if (!in(k, 0, 1)) {
            return no(-1);
        }
        images[k] = new Image(world.copy(), terms.clone(), List.copyOf(seenFacts), List.copyOf(laws), force);
        return yes(0);
    }

    int back(int k) {
        if (!in(k, 0, 1)) {
            return no(-1);
        }
        if (images[k] == null) {
            return no(-2);
        }
        world = images[k].world().copy();
        terms = images[k].terms().clone();
        seenFacts = new ArrayList<>(images[k].seen());
        laws = new ArrayList<>(images[k].laws());
        force = images[k].force();
        undos.clear();
        return yes(0);
    }

    int count(int what) {
        if (!in(what, 0, 17)) {
            return NONE;
        }
        return new int[] {world.ops.size(), world.stamp, world.results, seenFacts.size(), laws.size(), undos.size(), tape.size(),
            refused.getOrDefault(-1, 0), refused.getOrDefault(-2, 0), refused.getOrDefault(-3, 0), refused.getOrDefault(-5, 0),
            refused.getOrDefault(-6, 0), force, terms[0], terms[1], terms[2], latestResults.size(), latestShut.size()}[what];
    }
}
