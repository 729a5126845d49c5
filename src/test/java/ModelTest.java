import java.util.ArrayList;
import java.util.List;
import java.util.Random;

/** Runs of calls drawn by fixed seeds: JoinRouter and Model must answer alike, call by call. */
public final class ModelTest {
    private static final int RUNS = 6000;
    private static final int CALLS = 300;
    private static int wrong = 0;

    private final Random random;
    private final JoinRouter router = new JoinRouter();
    private final Model model = new Model();
    private final List<String> calls = new ArrayList<>();
    private boolean fine = true;

    private ModelTest(long seed) {
        random = new Random(seed);
    }

    public static void main(String[] args) {
        int runs = args.length > 0 ? Integer.parseInt(args[0]) : RUNS;
        int first = args.length > 1 ? Integer.parseInt(args[1]) : 0;
        for (int seed = first; seed < first + runs && wrong < 5; seed++) {
            ModelTest run = new ModelTest(seed);
            run.run();
            if (!run.fine) {
                wrong++;
                System.out.println("seed " + seed + ": " + String.join(" ; ", run.calls));
            }
        }
        System.out.println(wrong == 0 ? runs + " runs answered alike" : wrong + " runs did not answer alike");
        if (wrong != 0) {
            System.exit(1);
        }
    }

    private void run() {
        int mode = random.nextInt(4);
        if (mode > 0) {
            for (int i = 0; i < 3; i++) {
                tellOne();
            }
        }
        for (int i = 0; i < CALLS && fine; i++) {
            int which = random.nextInt(100);
            if (which < 30) {
                look();
            } else if (which < 55) {
                comeOne();
            } else {
                act();
            }
        }
        sweep();
    }

    // ---- calls

    private int upTo(int n) {
        return random.nextInt(n + 1);
    }

    /** Mostly what can be, sometimes beside it. */
    private int near(int least, int most) {
        if (random.nextInt(150) == 0) {
            int[] far = {Integer.MIN_VALUE, Integer.MAX_VALUE, Integer.MIN_VALUE + 1, -1000, 1000, 1 << 16};
            return far[random.nextInt(far.length)];
        }
        return random.nextInt(14) == 0 ? random.nextBoolean() ? least - 1 - upTo(2) : most + 1 + upTo(2) : least + random.nextInt(most - least + 1);
    }

    private void due(String call, long got, long want) {
        calls.add(call + " -> " + got);
        if (got != want && fine) {
            fine = false;
            calls.add("DUE IS " + want);
        }
    }

    private void tellOne() {
        int r = near(0, 2);
        int f = near(0, 1);
        int x = near(0, 2);
        if (random.nextInt(3) > 0) {
            int g = near(0, 1);
            due("join(" + r + "," + f + "," + x + "," + g + ")", router.join(r, f, x, g), model.join(r, f, x, g));
        } else {
            int n = near(0, 9);
            due("filter(" + r + "," + f + "," + x + "," + n + ")", router.filter(r, f, x, n), model.filter(r, f, x, n));
        }
    }

    private void comeOne() {
        int r = near(0, 2);
        int most = random.nextInt(5) == 0 ? 9 : 1 + random.nextInt(3);
        int a = near(0, most);
        int b = near(0, most);
        due("come(" + r + "," + a + "," + b + ")", router.come(r, a, b), model.come(r, a, b));
        due("status()", router.status(), model.status);
    }

    private void act() {
        switch (random.nextInt(17)) {
            case 0:
            case 1:
                tellOne();
                break;
            case 2:
                int what = near(0, 2);
                int value = what == 0 ? random.nextInt(3) > 0 ? near(1, 30) : near(900, 999) : near(0, what == 1 ? 10 : 9);
                due("terms(" + what + "," + value + ")", router.terms(what, value), model.terms(what, value));
                break;
            case 3:
                if (random.nextInt(3) == 0) {
                    feedBytes();
                    due("row()", router.row(), model.row());
                    due("strays()", router.strays(), model.strays);
                }
                break;
            case 4:
            case 5:
                feedText(true);
                due("law()", router.law(), model.law());
                due("fault()", router.fault(), model.fault);
                break;
            case 6:
            case 7:
            case 8:
                feedText(false);
                due("orders()", router.orders(), model.orders());
                due("fault()", router.fault(), model.fault);
                due("stopped()", router.stopped(), model.stopped);
                break;
            case 9:
                int law = near(-1, Math.max(0, model.laws.size() - 1));
                due("force(" + law + ")", router.force(law), model.force(law));
                break;
            case 10:
                int o = near(0, 3);
                due("strike(" + o + ")", router.strike(o), model.strike(o));
                break;
            case 11:
                int r = near(0, 2);
                int w = near(1, 9);
                due("window(" + r + "," + w + ")", router.window(r, w), model.window(r, w));
                break;
            case 12:
                int q = near(0, 2);
                int x = near(0, 2);
                due("index(" + q + "," + x + ")", router.index(q, x), model.index(q, x));
                break;
            case 13:
                for (int i = random.nextInt(random.nextInt(8) == 0 ? 18 : 3); i >= 0; i--) {
                    due("undo()", router.undo(), model.undo());
                }
                break;
            case 14:
                int fact = near(0, 2);
                int n = near(0, fact == 0 ? 2 : 3);
                due("seen(" + fact + "," + n + ")", router.seen(fact, n), model.seen(fact, n));
                if (random.nextInt(3) == 0) {
                    due("forget()", router.forget(), model.forget());
                }
                break;
            case 15:
                int seed = random.nextInt(9) == 0 ? near(0, 1000000) : random.nextInt(1000001);
                int days = near(1, 60);
                due("days(" + seed + "," + days + ")", router.days(seed, days), model.days(seed, days));
                break;
            default:
                int k = near(0, 1);
                if (random.nextBoolean()) {
                    due("image(" + k + ")", router.image(k), model.image(k));
                } else {
                    due("back(" + k + ")", router.back(k), model.back(k));
                }
                break;
        }
        due("status()", router.status(), model.status);
    }

    private void look() {
        int r = near(0, 2);
        int a = near(0, 3);
        int b = near(0, 3);
        int i = near(-1, 4);
        int what = near(0, 2);
        switch (random.nextInt(14)) {
            case 0:
                due("brings(" + r + "," + a + "," + b + "," + what + ")", router.brings(r, a, b, what), model.brings(r, a, b, what));
                break;
            case 1:
                due("cheapest(" + r + "," + a + "," + b + "," + i + ")", router.cheapest(r, a, b, i), model.cheapest(r, a, b, i));
                break;
            case 2:
                due("regret(" + r + "," + a + "," + b + ")", router.regret(r, a, b), model.regret(r, a, b));
                break;
            case 3:
                due("bestIndex(" + what + "," + r + "," + a + "," + b + ")", router.bestIndex(what, r, a, b), model.bestIndex(what, r, a, b));
                break;
            case 4:
                due("canBe(" + i + ")", router.canBe(i), model.canBe(i));
                break;
            case 5:
                due("ask(" + what + ")", router.ask(what), model.ask(what));
                break;
            case 6:
                int k = near(1, 20);
                int n = near(0, 99);
                due("few(" + k + "," + n + ")", router.few(k, n), model.few(k, n));
                break;
            case 7:
                due("compare(" + i + "," + r + "," + a + "," + b + ")", router.compare(i, r, a, b), model.compare(i, r, a, b));
                break;
            case 8:
                int d = near(0, 3);
                due("drawn(" + d + "," + what + ")", router.drawn(d, what), model.drawn(d, what));
                break;
            case 9:
                int at = near(0, 12);
                due("result(" + at + "," + r + ")", router.result(at, r), model.result(at, r));
                break;
            case 10:
                int s = near(0, 6);
                due("shut(" + s + ")", router.shut(s), model.shut(s));
                due("deepest()", router.deepest(), model.latestDeepest);
                break;
            case 11:
                int c = near(0, 17);
                due("count(" + c + ")", router.count(c), model.count(c));
                break;
            case 12:
                int o = near(0, 3);
                int part = near(0, 5);
                due("operator(" + o + "," + part + ")", router.operator(o, part), model.operator(o, part));
                break;
            default:
                due("relation(" + r + "," + what + ")", router.relation(r, what), model.relation(r, what));
                due("tuple(" + r + "," + a + "," + what + ")", router.tuple(r, a, what), model.tuple(r, a, what));
                break;
        }
    }

    /** All that can be looked at. */
    private void sweep() {
        for (int what = -1; what <= 18; what++) {
            due("count(" + what + ")", router.count(what), model.count(what));
        }
        for (int k = 0; k < 4; k++) {
            for (int what = 0; what < 6; what++) {
                due("operator(" + k + "," + what + ")", router.operator(k, what), model.operator(k, what));
            }
            due("drawn(" + k + ",0)", router.drawn(k, 0), model.drawn(k, 0));
            due("drawn(" + k + ",1)", router.drawn(k, 1), model.drawn(k, 1));
        }
        for (int r = 0; r < 3; r++) {
            for (int what = 0; what < 3; what++) {
                due("relation(" + r + "," + what + ")", router.relation(r, what), model.relation(r, what));
                for (int i = 0; i < 9; i++) {
                    due("tuple(" + r + "," + i + "," + what + ")", router.tuple(r, i, what), model.tuple(r, i, what));
                }
            }
            due("cheapest(" + r + ",1,1,-1)", router.cheapest(r, 1, 1, -1), model.cheapest(r, 1, 1, -1));
            for (int i = 0; i < 12; i++) {
                due("result(" + i + "," + r + ")", router.result(i, r), model.result(i, r));
            }
        }
        for (int i = 0; i < 12; i++) {
            due("shut(" + i + ")", router.shut(i), model.shut(i));
        }
        due("deepest()", router.deepest(), model.latestDeepest);
        due("fault()", router.fault(), model.fault);
        due("stopped()", router.stopped(), model.stopped);
        due("strays()", router.strays(), model.strays);
    }

    // ---- the TAPE

    private void feedBytes() {
        byte[] bytes = new byte[random.nextInt(40)];
        for (int i = 0; i < bytes.length; i++) {
            bytes[i] = (byte) (random.nextInt(20) == 0 ? random.nextInt(256) : random.nextInt(i % 3 == 0 ? 3 : 4));
        }
        put(bytes);
    }

    private void put(byte[] bytes) {
        for (int at = 0; at < bytes.length && fine; at += 20) {
            int[] five = new int[5];
            for (int i = 0; i < 20; i++) {
                int b = at + i < bytes.length ? bytes[at + i] & 255 : random.nextInt(256);
                five[i / 4] = five[i / 4] << 8 | b;
            }
            due("feed(..)", router.feed(five[0], five[1], five[2], five[3], five[4]), model.feed(five));
        }
        int n = random.nextInt(60) == 0 ? near(0, 400) : Math.min(400, bytes.length);
        due("end(" + n + ")", router.end(n), model.end(n));
    }

    private void feedText(boolean law) {
        List<String> tokens = new Writer(random, law).text();
        if (random.nextInt(4) == 0 && !tokens.isEmpty()) {
            spoil(tokens);
        }
        StringBuilder b = new StringBuilder(random.nextInt(5) == 0 ? " " : "");
        for (int i = 0; i < tokens.size(); i++) {
            boolean must = i > 0 && sticks(tokens.get(i - 1), tokens.get(i));
            b.append(must || random.nextInt(6) == 0 ? random.nextInt(12) == 0 ? "  " : " " : "").append(tokens.get(i));
        }
        String text = b.length() > 400 && random.nextInt(4) > 0 ? b.substring(0, 400) : b.toString();
        byte[] bytes = new byte[text.length()];
        for (int i = 0; i < bytes.length; i++) {
            bytes[i] = (byte) text.charAt(i);
        }
        calls.add("«" + text + "»");
        put(bytes);
    }

    private static boolean sticks(String one, String two) {
        if (one.isEmpty() || two.isEmpty()) {
            return false;
        }
        char x = one.charAt(one.length() - 1);
        char y = two.charAt(0);
        return x >= 'a' && x <= 'z' && y >= 'a' && y <= 'z' || x >= '0' && x <= '9' && y >= '0' && y <= '9';
    }

    private void spoil(List<String> tokens) {
        String[] odd = {"+", "*", "(", ")", "[", "]", ";", "if", "or", "and", "not", "costs", "bars", "come", "times", "to", "with", "1000", "1001",
            "0", "7", "00000000000000000003", "99999999999999999999", "held", "tickets", "op", "done", "A", "\t", "\u0000", "\u00ff", "ops", "<", "="};
        String word = odd[random.nextInt(odd.length)];
        int at = random.nextInt(tokens.size());
        switch (random.nextInt(3)) {
            case 0:
                tokens.add(at, word);
                break;
            case 1:
                tokens.set(at, word);
                break;
            default:
                tokens.remove(at);
                break;
        }
    }

    /** Writes TEXTS by the grammar, now and then with more of a kind than can be. */
    private static final class Writer {
        private final Random random;
        private final boolean law;
        private final List<String> out = new ArrayList<>();
        private final int bracketOdds;
        private final int depthMost;

        Writer(Random random, boolean law) {
            this.random = random;
            this.law = law;
            bracketOdds = random.nextInt(6) == 0 ? 2 : 8;
            depthMost = random.nextInt(4) == 0 ? 10 : 4;
        }

        List<String> text() {
            int shape = random.nextInt(30);
            if (shape == 0) {
                return out;
            }
            int clauses = shape == 1 ? 11 + random.nextInt(4) : 1 + random.nextInt(4);
            for (int i = 0; i < clauses; i++) {
                if (i > 0) {
                    out.add(";");
                }
                if (shape == 1 && law) {
                    out.add("bars");
                } else if (law) {
                    lawClause();
                } else {
                    orderClause();
                }
                if (random.nextInt(2) == 0 && shape != 1) {
                    out.add("if");
                    test(0);
                }
            }
            if (shape == 2 && clauses > 0) {
                manyParts();
            }
            if (shape == 3) {
                manyBrackets();
            }
            return out;
        }

        private void manyParts() {
            out.clear();
            out.add(law ? "costs" : "strike");
            int n = 48 + random.nextInt(5);
            for (int i = 0; i < n; i++) {
                out.add(i == 0 ? "0" : random.nextBoolean() ? "+" : "-");
                if (i > 0) {
                    out.add(random.nextBoolean() ? "stamp" : "" + random.nextInt(3));
                }
            }
            if (random.nextBoolean()) {
                out.add("if");
                test(3);
            }
        }

        private void manyBrackets() {
            out.clear();
            out.add(law ? "costs" : "strike");
            out.add("1");
            out.add("if");
            int n = 7 + random.nextInt(3);
            int turn = random.nextInt(n + 1);
            for (int i = 0; i < n; i++) {
                if (i < turn && random.nextInt(3) == 0) {
                    out.add("not");
                }
                out.add(i < turn ? "(" : "[");
            }
            out.add("stamp");
            for (int i = turn; i < n; i++) {
                out.add("]");
            }
            out.add("<");
            out.add("3");
            for (int i = 0; i < turn; i++) {
                out.add(")");
            }
        }

        private void lawClause() {
            if (random.nextInt(4) == 0) {
                out.add("bars");
                out.add("if");
                test(0);
            } else {
                out.add("costs");
                sum(0);
            }
        }

        private void orderClause() {
            switch (random.nextInt(6)) {
                case 0:
                    out.add("strike");
                    small(3);
                    break;
                case 1:
                    out.add("window");
                    small(2);
                    out.add("to");
                    small(6);
                    break;
                case 2:
                    out.add("index");
                    small(2);
                    out.add("to");
                    small(2);
                    break;
                default:
                    out.add("come");
                    small(2);
                    out.add("with");
                    small(3);
                    out.add("and");
                    small(3);
                    break;
            }
            if (random.nextInt(4) == 0) {
                out.add("times");
                out.add("" + (1 + random.nextInt(20)));
            }
        }

        /** A SUM that mostly can be. */
        private void small(int most) {
            int which = random.nextInt(10);
            if (which == 0) {
                sum(1);
            } else if (which < 4) {
                out.add("[");
                part(4);
                out.add("+");
                part(4);
                out.add("+");
                out.add("1000");
                out.add("]");
                out.add("%");
                out.add("" + (most + 1));
            } else {
                out.add("" + random.nextInt(most + 1));
            }
        }

        private void test(int depth) {
            both(depth);
            while (random.nextInt(4) == 0) {
                out.add("or");
                both(depth);
            }
        }

        private void both(int depth) {
            plain(depth);
            while (random.nextInt(4) == 0) {
                out.add("and");
                plain(depth);
            }
        }

        private void plain(int depth) {
            while (random.nextInt(5) == 0) {
                out.add("not");
            }
            if (depth < depthMost && random.nextInt(bracketOdds) == 0) {
                out.add("(");
                test(depth + 1);
                out.add(")");
                return;
            }
            sum(depth + 1);
            out.add("" + "<>=".charAt(random.nextInt(3)));
            sum(depth + 1);
        }

        private void sum(int depth) {
            term(depth);
            while (random.nextInt(4) == 0) {
                out.add(random.nextBoolean() ? "+" : "-");
                term(depth);
            }
        }

        private void term(int depth) {
            part(depth);
            while (random.nextInt(4) == 0) {
                out.add("" + "*/%".charAt(random.nextInt(3)));
                part(depth);
            }
        }

        private void part(int depth) {
            if (depth < depthMost && random.nextInt(bracketOdds) == 0) {
                out.add("[");
                sum(depth + 1);
                out.add("]");
                return;
            }
            if (random.nextInt(3) == 0) {
                out.add("" + (random.nextInt(4) == 0 ? random.nextInt(1001) : random.nextInt(6)));
                return;
            }
            String[] laws = {"op", "relation", "a", "b", "size", "tickets", "marks", "stamp", "mood"};
            String[] orders = {"stamp", "done", "latest", "results", "operators", "held", "tickets"};
            String word = law ? laws[random.nextInt(laws.length)] : orders[random.nextInt(orders.length)];
            out.add(word);
            if (!law && word.equals("held")) {
                out.add("" + random.nextInt(3));
            }
            if (!law && word.equals("tickets")) {
                out.add("" + random.nextInt(4));
            }
        }
    }
}
