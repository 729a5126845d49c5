/**
 * A router that joins tuples as they come, in an order of operators that is learnt by tickets.
 *
 * <p>What it promises stands in the project's document; the words in capitals here are its terms.
 */
public final class JoinRouter {
    public static final int NONE = -1;
    public static final int NOTHING = -1000;

    private static final int RELATIONS = 3;
    private static final int FIELDS = 2;
    private static final int HIGHEST = 9;
    private static final int KINDS = 3;
    private static final int MOST_OPERATORS = 4;
    private static final int FIRST_WINDOW = 4;
    private static final int MOST_WINDOW = 9;
    private static final int NO_INDEX = 2;
    private static final int LAST_STAMP = 999;
    private static final int MOST_LAWS = 6;
    private static final int MOST_SEEN = 6;
    private static final int FACTS = 3;
    private static final int MOST_UNDONE = 16;
    private static final int MOST_KEPT = 99;
    private static final int MOST_BYTES = 400;
    private static final int BYTES_FED = 20;
    private static final int IMAGES = 2;
    private static final int MOST_DAYS = 60;
    private static final int MOST_SEED = 1000000;
    private static final int MOST_ORDERS_OF_FOUR = 24;
    private static final int MOST_FEW = 20;
    private static final int MOST_SLIPPING = 99;
    private static final long WHOLE_CHANCE = 1000000000000L;
    /** On paper no BUDGET counts: no COMING can cost as much as this. */
    private static final int NO_BUDGET = 1000000000;

    private static final int BUDGET = 0;
    private static final int SLIPS = 1;
    private static final int MOOD = 2;
    private static final int TERMS = 3;
    private static final int[] LEAST_TERM = {1, 0, 0};
    private static final int[] MOST_TERM = {999, 10, 9};

    private static final int BAD_NUMBER = -1;
    private static final int NO_SUCH = -2;
    private static final int CANNOT_BE = -3;
    private static final int NO_ROOM = -5;
    private static final int BAD_TEXT = -6;
    private static final int WAYS_REFUSED = 5;

    private static final int UNDO_COME = 0;
    private static final int UNDO_TELL = 1;
    private static final int UNDO_STRIKE = 2;
    private static final int UNDO_WINDOW = 3;
    private static final int UNDO_INDEX = 4;

    private final Kept now = new Kept();
    private final Kept[] images = new Kept[IMAGES];
    private final boolean[] isKept = new boolean[IMAGES];
    private final Log log = new Log();
    private final Log logBefore = new Log();
    /** All as it was ahead of ORDERS, while they are run; else for what is reckoned on paper. */
    private final Core spare = new Core();
    private final Core drawnCore = new Core();
    private boolean hasDrawn = false;
    private final Reader reader = new Reader();
    private final Tape tape = reader.tokens.tape;
    private final Route route = new Route();
    private final Latest latest = new Latest();
    private final Running running = new Running();
    private final int[] refusals = new int[WAYS_REFUSED];
    private final int[] bestRow = new int[MOST_OPERATORS];
    private final int[] scratch = new int[HIGHEST + 1];
    private int statusNow = 0;
    private int faultAt = NONE;
    private int straysOfRow = 0;

    public JoinRouter() {
        for (int k = 0; k < IMAGES; k++) {
            images[k] = new Kept();
        }
    }

    // ---- operators, relations, tuples

    public int join(int one, int field, int other, int otherField) {
        if (!isRelation(one) || !isField(field) || !isRelation(other) || !isField(otherField) || one == other) {
            return refuse(BAD_NUMBER);
        }
        return tell(0, one, field, other, otherField);
    }

    public int filter(int relation, int field, int kind, int number) {
        if (!isRelation(relation) || !isField(field) || kind < 0 || kind >= KINDS || !isDigit(number)) {
            return refuse(BAD_NUMBER);
        }
        return tell(1, relation, field, kind, number);
    }

    public int operator(int operator, int what) {
        if (!now.core.hasOperator(operator) || what < 0 || what > Core.TICKETS) {
            return NOTHING;
        }
        return now.core.part(operator, what);
    }

    public int relation(int relation, int what) {
        if (!isRelation(relation)) {
            return NONE;
        }
        switch (what) {
            case 0:
                return now.core.windowOf(relation);
            case 1:
                return now.core.indexOn(relation);
            case 2:
                return now.core.held(relation);
            default:
                return NONE;
        }
    }

    public int tuple(int relation, int i, int what) {
        if (!isRelation(relation) || i < 0 || i >= now.core.held(relation) || what < 0 || what > Core.STAMP_OF) {
            return NONE;
        }
        return now.core.cell(relation, i, what);
    }

    public int terms(int what, int value) {
        if (what < 0 || what >= TERMS || value < LEAST_TERM[what] || value > MOST_TERM[what]) {
            return refuse(BAD_NUMBER);
        }
        int was = now.terms[what];
        now.terms[what] = value;
        return accept(was);
    }

    // ---- the TAPE and what is read from it

    public int feed(int a, int b, int c, int d, int e) {
        if (tape.length + BYTES_FED > MOST_BYTES) {
            return NONE;
        }
        tape.put(a);
        tape.put(b);
        tape.put(c);
        tape.put(d);
        tape.put(e);
        return tape.length;
    }

    public int end(int n) {
        if (n < 0 || n > tape.length) {
            return NONE;
        }
        tape.length = n;
        return n;
    }

    public int row() {
        if (tape.length == 0) {
            return refuse(BAD_TEXT);
        }
        int came = 0;
        int all = 0;
        for (int i = 0; i < tape.length; i += 3) {
            all++;
            if (i + 2 < tape.length && comeTo(now.core, null, tape.at(i), tape.at(i + 1), tape.at(i + 2)) >= 0) {
                came++;
            }
        }
        tape.length = 0;
        straysOfRow = all - came;
        log.size = 0;
        return accept(came);
    }

    public int strays() {
        return straysOfRow;
    }

    public int law() {
        if (now.lawCount >= MOST_LAWS) {
            tape.length = 0;
            return refuse(NO_ROOM);
        }
        faultAt = reader.read(true);
        tape.length = 0;
        if (faultAt != NONE) {
            return refuse(BAD_TEXT);
        }
        now.laws[now.lawCount] = new Text(reader.text);
        now.lawCount++;
        return accept(now.lawCount - 1);
    }

    public int orders() {
        running.begin();
        faultAt = reader.read(false);
        tape.length = 0;
        if (faultAt != NONE) {
            return refuse(BAD_TEXT);
        }
        spare.copy(now.core);
        logBefore.copy(log);
        Text text = reader.text;
        for (int c = 0; c < text.clauses && running.stoppedAt == NONE; c++) {
            runClause(text, c);
        }
        if (running.stoppedAt == NONE) {
            return accept(running.done);
        }
        now.core.copy(spare);
        log.copy(logBefore);
        return refuse(CANNOT_BE);
    }

    public int fault() {
        return faultAt;
    }

    public int stopped() {
        return running.stoppedAt;
    }

    public int force(int law) {
        if (law != NONE && !hasLaw(law)) {
            return refuse(NO_SUCH);
        }
        int was = now.inForce;
        now.inForce = law;
        return accept(was);
    }

    // ---- acts

    public int come(int relation, int a, int b) {
        int answer = comeTo(now.core, log, relation, a, b);
        if (answer >= 0) {
            latest.keepResults(route);
        }
        if (answer >= 0 || answer == NO_ROOM) {
            latest.keepShut(route);
        }
        return settle(answer);
    }

    public int strike(int operator) {
        return settle(strikeOut(operator));
    }

    public int window(int relation, int window) {
        return settle(changeWindow(relation, window));
    }

    public int index(int relation, int index) {
        return settle(changeIndex(relation, index));
    }

    public int undo() {
        if (log.size == 0) {
            return refuse(CANNOT_BE);
        }
        return accept(log.pop(now.core));
    }

    // ---- the latest come()

    public int result(int i, int relation) {
        if (i < 0 || i >= latest.results || i >= MOST_KEPT || !isRelation(relation)) {
            return NONE;
        }
        int stamp = latest.resultStamps[i * RELATIONS + relation];
        return stamp == 0 ? NONE : stamp;
    }

    public int shut(int i) {
        if (i < 0 || i >= latest.shutCount || i >= MOST_KEPT) {
            return NONE;
        }
        return latest.shutRelations[i];
    }

    public int deepest() {
        return latest.deepest;
    }

    // ---- on paper

    public int brings(int relation, int a, int b, int what) {
        if (!isTuple(relation, a, b) || what < 0 || what > 1) {
            return NONE;
        }
        int cost = costOnPaper(now.core, now.lawInForce(), relation, a, b);
        return what == 0 ? route.results : cost;
    }

    public int cheapest(int relation, int a, int b, int i) {
        if (!isTuple(relation, a, b) || i < NONE || i >= now.core.operators()) {
            return NONE;
        }
        int cost = findCheapest(relation, a, b);
        return i == NONE ? cost : bestRow[i];
    }

    public int regret(int relation, int a, int b) {
        if (!isTuple(relation, a, b)) {
            return NONE;
        }
        int learnt = costOnPaper(now.core, now.lawInForce(), relation, a, b);
        return learnt - findCheapest(relation, a, b);
    }

    public int bestIndex(int of, int relation, int a, int b) {
        if (!isRelation(of) || !isTuple(relation, a, b)) {
            return NONE;
        }
        spare.copy(now.core);
        int best = 0;
        int least = NO_BUDGET;
        for (int index = 0; index <= NO_INDEX; index++) {
            spare.setIndex(of, index);
            int cost = costOnPaper(spare, now.lawInForce(), relation, a, b);
            if (cost < least) {
                least = cost;
                best = index;
            }
        }
        return best;
    }

    // ---- what was SEEN

    public int seen(int fact, int n) {
        if (fact < 0 || fact >= FACTS || !isDigit(n)) {
            return refuse(BAD_NUMBER);
        }
        if (now.seenCount >= MOST_SEEN) {
            return refuse(NO_ROOM);
        }
        now.seenFacts[now.seenCount] = fact;
        now.seenNumbers[now.seenCount] = n;
        now.seenCount++;
        return accept(now.seenCount);
    }

    public int forget() {
        int was = now.seenCount;
        now.seenCount = 0;
        return was;
    }

    public int canBe(int i) {
        int found = 0;
        for (int relation = 0; relation < RELATIONS; relation++) {
            for (int t = 0; t < now.core.held(relation); t++) {
                if (now.agrees(relation, t)) {
                    if (found == i) {
                        return now.core.cell(relation, t, Core.STAMP_OF);
                    }
                    found++;
                }
            }
        }
        return i == NONE ? found : NONE;
    }

    public int ask(int what) {
        if (what < 0 || what > 1) {
            return NONE;
        }
        int bestFact = NONE;
        int fewest = 0;
        for (int fact = 0; fact < FACTS; fact++) {
            int alike = mostAlike(fact);
            if (alike > 0 && (bestFact == NONE || alike < fewest)) {
                bestFact = fact;
                fewest = alike;
            }
        }
        return what == 0 || bestFact == NONE ? bestFact : fewest;
    }

    public long few(int k, int n) {
        if (k < 1 || k > MOST_FEW || n < 0 || n > MOST_SLIPPING) {
            return NONE;
        }
        int slips = now.terms[SLIPS];
        long[] chances = new long[k];
        chances[0] = WHOLE_CHANCE;
        for (int i = 0; i < n; i++) {
            // From above, so that each part is taken as it was ahead of this tuple.
            for (int j = k - 1; j >= 0; j--) {
                long stays = chances[j] * (10 - slips) / 10;
                chances[j] = j == 0 ? stays : stays + chances[j - 1] * slips / 10;
            }
        }
        long all = 0;
        for (int j = 0; j < k; j++) {
            all += chances[j];
        }
        return all;
    }

    public int compare(int law, int relation, int a, int b) {
        if (law != NONE && !hasLaw(law) || !isTuple(relation, a, b)) {
            return NONE;
        }
        return costOnPaper(now.core, law == NONE ? null : now.laws[law], relation, a, b);
    }

    // ---- DAYS

    public int days(int seed, int n) {
        if (seed < 0 || seed > MOST_SEED || n < 1 || n > MOST_DAYS) {
            return refuse(BAD_NUMBER);
        }
        drawnCore.copy(now.core);
        hasDrawn = true;
        int s = seed;
        for (int day = 0; day < n; day++) {
            s = drawBehind(s);
            int relation = s % 3;
            s = drawBehind(s);
            int second = s % 4;
            s = drawBehind(s);
            int third = s % 4;
            s = drawBehind(s);
            if (s % 8 < 7) {
                comeTo(drawnCore, null, relation, second, third);
            } else {
                drawnCore.setWindow(relation, second + 2);
            }
        }
        return accept(drawnCore.resultsEver() - now.core.resultsEver());
    }

    public int drawn(int k, int what) {
        if (hasDrawn && what == 0 && drawnCore.hasOperator(k)) {
            return drawnCore.part(k, Core.TICKETS);
        }
        if (hasDrawn && what == 1 && isRelation(k)) {
            return drawnCore.held(k);
        }
        return NOTHING;
    }

    // ---- IMAGES

    public int image(int k) {
        if (k < 0 || k >= IMAGES) {
            return refuse(BAD_NUMBER);
        }
        images[k].copy(now);
        isKept[k] = true;
        return accept(0);
    }

    public int back(int k) {
        if (k < 0 || k >= IMAGES) {
            return refuse(BAD_NUMBER);
        }
        if (!isKept[k]) {
            return refuse(NO_SUCH);
        }
        now.copy(images[k]);
        log.size = 0;
        return accept(0);
    }

    public int count(int what) {
        switch (what) {
            case 0:
                return now.core.operators();
            case 1:
                return now.core.latestStamp();
            case 2:
                return now.core.resultsEver();
            case 3:
                return now.seenCount;
            case 4:
                return now.lawCount;
            case 5:
                return log.size;
            case 6:
                return tape.length;
            case 12:
                return now.inForce;
            case 16:
                return latest.results;
            case 17:
                return latest.shutCount;
            default:
                break;
        }
        if (what >= 7 && what < 7 + WAYS_REFUSED) {
            return refusals[what - 7];
        }
        return what >= 13 && what < 13 + TERMS ? now.terms[what - 13] : NONE;
    }

    public int status() {
        return statusNow;
    }

    // ---- numbers that can be

    private static boolean isRelation(int relation) {
        return relation >= 0 && relation < RELATIONS;
    }

    private static boolean isField(int field) {
        return field >= 0 && field < FIELDS;
    }

    private static boolean isDigit(int number) {
        return number >= 0 && number <= HIGHEST;
    }

    private static boolean isTuple(int relation, int a, int b) {
        return isRelation(relation) && isDigit(a) && isDigit(b);
    }

    private boolean hasLaw(int law) {
        return law >= 0 && law < now.lawCount;
    }

    // ---- what a call is answered with

    private int accept(int answer) {
        statusNow = 0;
        return answer;
    }

    private int refuse(int by) {
        statusNow = by;
        // There is no way -4, so those behind it stand one nearer.
        int way = by >= CANNOT_BE ? -by - 1 : -by - 2;
        if (way >= 0 && way < WAYS_REFUSED) {
            refusals[way]++;
        }
        return by;
    }

    /** For acts that answer nothing below 0 unless they are REFUSED. */
    private int settle(int answer) {
        return answer < 0 ? refuse(answer) : accept(answer);
    }

    // ---- acts, as calls and ORDERS have them

    private int tell(int isFilter, int relation, int field, int third, int fourth) {
        if (now.core.operators() >= MOST_OPERATORS) {
            return refuse(NO_ROOM);
        }
        log.push(UNDO_TELL, now.core);
        return accept(now.core.addOperator(isFilter, relation, field, third, fourth));
    }

    /** A TUPLE COMES: how many RESULTS, or what it is REFUSED by. Without a log it can't be undone. */
    private int comeTo(Core core, Log undoable, int relation, int a, int b) {
        if (!isTuple(relation, a, b)) {
            return BAD_NUMBER;
        }
        route.setTerms(now.lawInForce(), now.terms[MOOD], now.terms[BUDGET], null);
        route.setTuple(core, relation, a, b);
        if (core.latestStamp() >= LAST_STAMP || route.isBarred()) {
            return CANNOT_BE;
        }
        route.pass(0, 0);
        if (route.givenUp) {
            return NO_ROOM;
        }
        if (undoable != null) {
            undoable.push(UNDO_COME, core);
        }
        core.setTickets(route.tickets);
        core.addTuple(relation, a, b, route.results);
        return route.results;
    }

    private int strikeOut(int operator) {
        if (!now.core.hasOperator(operator)) {
            return NO_SUCH;
        }
        log.push(UNDO_STRIKE, now.core);
        return now.core.removeOperator(operator);
    }

    private int changeWindow(int relation, int window) {
        if (!isRelation(relation) || window < 1 || window > MOST_WINDOW) {
            return BAD_NUMBER;
        }
        if (now.core.windowOf(relation) == window) {
            return CANNOT_BE;
        }
        log.push(UNDO_WINDOW, now.core);
        return now.core.setWindow(relation, window);
    }

    private int changeIndex(int relation, int index) {
        if (!isRelation(relation) || index < 0 || index > NO_INDEX) {
            return BAD_NUMBER;
        }
        int was = now.core.indexOn(relation);
        if (was == index) {
            return CANNOT_BE;
        }
        log.push(UNDO_INDEX, now.core);
        now.core.setIndex(relation, index);
        return was;
    }

    // ---- ORDERS

    private void runClause(Text text, int clause) {
        int[] numbers = running.numbers;
        int times = text.part(clause, Text.TIMES);
        for (int i = 0; i < times && running.stoppedAt == NONE; i++) {
            running.setWords(now.core);
            if (!running.machine.isSo(text, clause, running.words)) {
                continue;
            }
            int answer = CANNOT_BE;
            if (running.machine.setSums(text, clause, running.words, numbers)) {
                switch (text.part(clause, Text.KIND)) {
                    case Text.COME:
                        answer = comeTo(now.core, log, numbers[0], numbers[1], numbers[2]);
                        running.latestCome = answer;
                        break;
                    case Text.STRIKE:
                        answer = strikeOut(numbers[0]);
                        break;
                    case Text.WINDOW:
                        answer = changeWindow(numbers[0], numbers[1]);
                        break;
                    default:
                        answer = changeIndex(numbers[0], numbers[1]);
                        break;
                }
            }
            if (answer < 0) {
                running.stoppedAt = clause;
            } else {
                running.done++;
            }
        }
    }

    // ---- reckoning on paper

    private int costOnPaper(Core core, Text law, int relation, int a, int b) {
        route.setTerms(law, now.terms[MOOD], NO_BUDGET, null);
        route.setTuple(core, relation, a, b);
        route.pass(0, 0);
        return route.cost;
    }

    /** Leaves the CHEAPEST order in bestRow: what it COSTS. */
    private int findCheapest(int relation, int a, int b) {
        int n = now.core.operators();
        int[] order = scratch;
        for (int i = 0; i < n; i++) {
            order[i] = i;
        }
        int least = NO_BUDGET;
        route.setTerms(now.lawInForce(), now.terms[MOOD], NO_BUDGET, order);
        boolean more = true;
        for (int turn = 0; turn < MOST_ORDERS_OF_FOUR && more; turn++) {
            route.setTuple(now.core, relation, a, b);
            route.pass(0, 0);
            if (route.cost < least) {
                least = route.cost;
                System.arraycopy(order, 0, bestRow, 0, n);
            }
            more = nextOrder(order, n);
        }
        return least;
    }

    /** The next order of the first n as a row; false behind the last one. */
    private static boolean nextOrder(int[] order, int n) {
        int i = n - 2;
        for (; i >= 0 && order[i] > order[i + 1]; i--) {
            continue;
        }
        if (i < 0) {
            return false;
        }
        int j = n - 1;
        for (; j > i && order[j] < order[i]; j--) {
            continue;
        }
        swap(order, i, j);
        for (int low = i + 1, high = n - 1; low < high; low++, high--) {
            swap(order, low, high);
        }
        return true;
    }

    private static void swap(int[] order, int i, int j) {
        int was = order[i];
        order[i] = order[j];
        order[j] = was;
    }

    /** Of the TUPLES that it can be, how many are alike in the FACT at most; 0: it can be none. */
    private int mostAlike(int fact) {
        int[] alike = scratch;
        for (int n = 0; n <= HIGHEST; n++) {
            alike[n] = 0;
        }
        int most = 0;
        for (int relation = 0; relation < RELATIONS; relation++) {
            for (int i = 0; i < now.core.held(relation); i++) {
                if (now.agrees(relation, i)) {
                    int n = now.core.fact(relation, i, fact);
                    alike[n]++;
                    most = Math.max(most, alike[n]);
                }
            }
        }
        return most;
    }

    private static int drawBehind(int s) {
        return (int) ((s * 1103L + 12345L) % 1000003L);
    }

    // ---- the classes inside

    /** All that a COMING changes and that undo() brings back, in one row of cells, so that it is copied at once. */
    private static final class Core {
        static final int TICKETS = 5;
        static final int STAMP_OF = 2;
        private static final int OPERATORS = 0;
        private static final int STAMP = 1;
        private static final int RESULTS = 2;
        private static final int WINDOWS = 3;
        private static final int INDICES = 6;
        private static final int HELD = 9;
        private static final int TOLD = 12;
        private static final int OPERATOR_CELLS = 6;
        private static final int TUPLES = 36;
        private static final int TUPLE_CELLS = 3;
        static final int CELLS = 117;

        final int[] cells = new int[CELLS];

        Core() {
            for (int relation = 0; relation < RELATIONS; relation++) {
                cells[WINDOWS + relation] = FIRST_WINDOW;
                cells[INDICES + relation] = NO_INDEX;
            }
        }

        void copy(Core other) {
            System.arraycopy(other.cells, 0, cells, 0, CELLS);
        }

        int operators() {
            return cells[OPERATORS];
        }

        int latestStamp() {
            return cells[STAMP];
        }

        int resultsEver() {
            return cells[RESULTS];
        }

        int windowOf(int relation) {
            return cells[WINDOWS + relation];
        }

        int indexOn(int relation) {
            return cells[INDICES + relation];
        }

        void setIndex(int relation, int index) {
            cells[INDICES + relation] = index;
        }

        int held(int relation) {
            return cells[HELD + relation];
        }

        boolean hasOperator(int operator) {
            return operator >= 0 && operator < cells[OPERATORS];
        }

        int part(int operator, int what) {
            return cells[TOLD + operator * OPERATOR_CELLS + what];
        }

        /** FIELD 0, FIELD 1, the STAMP (0, 1, 2) of a TUPLE in a STATE. */
        int cell(int relation, int i, int what) {
            return cells[TUPLES + (relation * MOST_WINDOW + i) * TUPLE_CELLS + what];
        }

        int fact(int relation, int i, int fact) {
            return fact == 0 ? relation : cell(relation, i, fact - 1);
        }

        int addOperator(int isFilter, int relation, int field, int third, int fourth) {
            int number = cells[OPERATORS];
            int at = TOLD + number * OPERATOR_CELLS;
            cells[at] = isFilter;
            cells[at + 1] = relation;
            cells[at + 2] = field;
            cells[at + 3] = third;
            cells[at + 4] = fourth;
            cells[at + TICKETS] = 0;
            cells[OPERATORS] = number + 1;
            return number;
        }

        int removeOperator(int operator) {
            cells[OPERATORS]--;
            int end = TOLD + cells[OPERATORS] * OPERATOR_CELLS;
            for (int at = TOLD + operator * OPERATOR_CELLS; at < end; at++) {
                cells[at] = cells[at + OPERATOR_CELLS];
            }
            return cells[OPERATORS];
        }

        void setTickets(int[] tickets) {
            for (int operator = 0; operator < cells[OPERATORS]; operator++) {
                cells[TOLD + operator * OPERATOR_CELLS + TICKETS] = tickets[operator];
            }
        }

        /** How many TUPLES went. */
        int setWindow(int relation, int window) {
            cells[WINDOWS + relation] = window;
            int over = Math.max(0, cells[HELD + relation] - window);
            dropOldest(relation, over);
            return over;
        }

        void addTuple(int relation, int a, int b, int results) {
            cells[STAMP]++;
            cells[RESULTS] += results;
            if (cells[HELD + relation] >= cells[WINDOWS + relation]) {
                dropOldest(relation, 1);
            }
            int at = TUPLES + (relation * MOST_WINDOW + cells[HELD + relation]) * TUPLE_CELLS;
            cells[at] = a;
            cells[at + 1] = b;
            cells[at + STAMP_OF] = cells[STAMP];
            cells[HELD + relation]++;
        }

        private void dropOldest(int relation, int n) {
            cells[HELD + relation] -= n;
            int first = TUPLES + relation * MOST_WINDOW * TUPLE_CELLS;
            int end = first + cells[HELD + relation] * TUPLE_CELLS;
            for (int at = first; at < end; at++) {
                cells[at] = cells[at + n * TUPLE_CELLS];
            }
        }
    }

    /** All that an IMAGE keeps. */
    private static final class Kept {
        final Core core = new Core();
        final int[] terms = {999, 1, 0};
        final int[] seenFacts = new int[MOST_SEEN];
        final int[] seenNumbers = new int[MOST_SEEN];
        int seenCount = 0;
        final Text[] laws = new Text[MOST_LAWS];
        int lawCount = 0;
        int inForce = NONE;

        void copy(Kept other) {
            core.copy(other.core);
            System.arraycopy(other.terms, 0, terms, 0, TERMS);
            System.arraycopy(other.seenFacts, 0, seenFacts, 0, MOST_SEEN);
            System.arraycopy(other.seenNumbers, 0, seenNumbers, 0, MOST_SEEN);
            seenCount = other.seenCount;
            for (int i = 0; i < MOST_LAWS; i++) {
                // A LAW never changes once it is read, so that it may be held by many.
                laws[i] = other.laws[i];
            }
            lawCount = other.lawCount;
            inForce = other.inForce;
        }

        Text lawInForce() {
            return inForce >= 0 && inForce < lawCount ? laws[inForce] : null;
        }

        boolean agrees(int relation, int i) {
            for (int s = 0; s < seenCount; s++) {
                if (core.fact(relation, i, seenFacts[s]) != seenNumbers[s]) {
                    return false;
                }
            }
            return true;
        }
    }

    /** The acts that can be undone, each with all as it was ahead of it. */
    private static final class Log {
        final int[] kinds = new int[MOST_UNDONE];
        final int[] cells = new int[MOST_UNDONE * Core.CELLS];
        int first = 0;
        int size = 0;

        void push(int kind, Core core) {
            if (size == MOST_UNDONE) {
                first = (first + 1) % MOST_UNDONE;
                size--;
            }
            int at = (first + size) % MOST_UNDONE;
            kinds[at] = kind;
            System.arraycopy(core.cells, 0, cells, at * Core.CELLS, Core.CELLS);
            size++;
        }

        /** There must be one. */
        int pop(Core core) {
            size--;
            int at = (first + size) % MOST_UNDONE;
            System.arraycopy(cells, at * Core.CELLS, core.cells, 0, Core.CELLS);
            return kinds[at];
        }

        void copy(Log other) {
            System.arraycopy(other.kinds, 0, kinds, 0, kinds.length);
            System.arraycopy(other.cells, 0, cells, 0, cells.length);
            first = other.first;
            size = other.size;
        }
    }

    /** What the latest come() left, whatever is undone or gone back to. */
    private static final class Latest {
        final int[] resultStamps = new int[MOST_KEPT * RELATIONS];
        int results = 0;
        final int[] shutRelations = new int[MOST_KEPT];
        int shutCount = 0;
        int deepest = 0;

        void keepResults(Route route) {
            results = route.results;
            System.arraycopy(route.resultStamps, 0, resultStamps, 0, resultStamps.length);
        }

        void keepShut(Route route) {
            shutCount = route.shutCount;
            deepest = route.deepest;
            System.arraycopy(route.shutRelations, 0, shutRelations, 0, shutRelations.length);
        }
    }

    /** The way of one TUPLE through the OPERATORS. It changes nothing but itself. */
    private static final class Route {
        private static final int TICKETS = 0;
        private static final int OP = 1;
        private static final int RELATION = 2;
        private static final int FIELD_A = 3;
        private static final int FIELD_B = 4;
        private static final int SIZE = 5;
        private static final int MARKS = 6;
        private static final int MOOD_WORD = 7;
        private static final int STAMP = 8;
        private static final int WORDS = 9;
        private static final int NO_WORD = -1;

        private final Machine machine = new Machine();
        private final int[] words = new int[WORDS];
        private Core core = new Core();
        private Text law = null;
        private int[] order = null;
        private int budget = 0;
        private int open = 0;
        /** Of the PARTIAL's TUPLES the STAMPS, 0 where there is none, and the FIELDS. */
        private final int[] stamps = new int[RELATIONS];
        private final int[] fields = new int[RELATIONS * FIELDS];

        final int[] tickets = new int[MOST_OPERATORS];
        final int[] resultStamps = new int[MOST_KEPT * RELATIONS];
        final int[] shutRelations = new int[MOST_KEPT];
        int results = 0;
        int shutCount = 0;
        int deepest = 0;
        int cost = 0;
        boolean givenUp = false;

        /** With an order TICKETS don't choose. */
        void setTerms(Text law, int mood, int budget, int[] order) {
            this.law = law;
            this.budget = budget;
            this.order = order;
            words[MOOD_WORD] = mood;
        }

        void setTuple(Core core, int relation, int a, int b) {
            this.core = core;
            words[RELATION] = relation;
            words[FIELD_A] = a;
            words[FIELD_B] = b;
            words[STAMP] = core.latestStamp() + 1;
            for (int r = 0; r < RELATIONS; r++) {
                stamps[r] = 0;
            }
            hold(relation, a, b, words[STAMP]);
            for (int o = 0; o < core.operators(); o++) {
                tickets[o] = core.part(o, Core.TICKETS);
            }
            open = 0;
            results = 0;
            shutCount = 0;
            deepest = 0;
            cost = 0;
            givenUp = false;
        }

        boolean isBarred() {
            words[OP] = NO_WORD;
            words[SIZE] = NO_WORD;
            words[TICKETS] = NO_WORD;
            words[MARKS] = NO_WORD;
            for (int c = 0; law != null && c < law.clauses; c++) {
                if (law.part(c, Text.KIND) == Text.BARS && machine.isSo(law, c, words)) {
                    return true;
                }
            }
            return false;
        }

        /** The PARTIAL goes on. The depth is how many MARKS it has: as there is one more at each level, four is the end. */
        private void pass(int marks, int depth) {
            if (depth >= core.operators()) {
                addResult();
                return;
            }
            int operator = chosen(marks);
            if (operator == NONE) {
                return;
            }
            int opened = relationToOpen(operator);
            int costs = costOf(operator, opened == NONE ? 1 : looksAt(operator, opened), depth);
            if (cost + costs > budget) {
                givenUp = true;
                return;
            }
            cost += costs;
            tickets[operator]++;
            if (opened != NONE) {
                passAll(operator, opened, marks, depth);
            } else if (isSo(operator)) {
                tickets[operator]--;
                pass(marks | 1 << operator, depth + 1);
            }
        }

        private void passAll(int operator, int opened, int marks, int depth) {
            int field = fieldIn(operator, opened);
            int same = valueThere(operator, opened);
            open++;
            deepest = Math.max(deepest, open);
            for (int i = 0; i < core.held(opened) && !givenUp; i++) {
                if (core.cell(opened, i, field) == same) {
                    hold(opened, core.cell(opened, i, 0), core.cell(opened, i, 1), core.cell(opened, i, Core.STAMP_OF));
                    tickets[operator]--;
                    pass(marks | 1 << operator, depth + 1);
                }
            }
            stamps[opened] = 0;
            open--;
            if (shutCount < MOST_KEPT) {
                shutRelations[shutCount] = opened;
            }
            shutCount++;
        }

        private void hold(int relation, int a, int b, int stamp) {
            fields[relation * FIELDS] = a;
            fields[relation * FIELDS + 1] = b;
            stamps[relation] = stamp;
        }

        private void addResult() {
            if (results < MOST_KEPT) {
                System.arraycopy(stamps, 0, resultStamps, results * RELATIONS, RELATIONS);
            }
            results++;
        }

        private int chosen(int marks) {
            int best = NONE;
            for (int i = 0; i < core.operators(); i++) {
                int operator = order == null ? i : order[i];
                if (!isOpen(operator, marks)) {
                    continue;
                }
                if (order != null) {
                    return operator;
                }
                if (best == NONE || tickets[operator] > tickets[best]) {
                    best = operator;
                }
            }
            return best;
        }

        private boolean isOpen(int operator, int marks) {
            if ((marks >> operator & 1) == 1) {
                return false;
            }
            boolean hasOne = stamps[core.part(operator, 1)] > 0;
            return hasOne || core.part(operator, 0) == 0 && stamps[core.part(operator, 3)] > 0;
        }

        /** The RELATION of a JOIN that the PARTIAL has no TUPLE of; NONE for one that only looks at it. */
        private int relationToOpen(int operator) {
            if (core.part(operator, 0) == 1) {
                return NONE;
            }
            int one = core.part(operator, 1);
            int other = core.part(operator, 3);
            if (stamps[one] == 0) {
                return one;
            }
            return stamps[other] == 0 ? other : NONE;
        }

        private int fieldIn(int operator, int relation) {
            return core.part(operator, 1) == relation ? core.part(operator, 2) : core.part(operator, 4);
        }

        /** What the FIELD is that the PARTIAL has, of a JOIN that opens a STATE. */
        private int valueThere(int operator, int opened) {
            boolean opensFirst = core.part(operator, 1) == opened;
            int relation = opensFirst ? core.part(operator, 3) : core.part(operator, 1);
            int field = opensFirst ? core.part(operator, 4) : core.part(operator, 2);
            return fields[relation * FIELDS + field];
        }

        private int looksAt(int operator, int opened) {
            int field = fieldIn(operator, opened);
            if (core.indexOn(opened) != field) {
                return core.held(opened);
            }
            int bucket = bucketOf(valueThere(operator, opened));
            int looked = 0;
            for (int i = 0; i < core.held(opened); i++) {
                if (bucketOf(core.cell(opened, i, field)) == bucket) {
                    looked++;
                }
            }
            return looked;
        }

        private static int bucketOf(int v) {
            return (v * v * 7 + 3) % 5;
        }

        /** Of a FILTER, or a JOIN of which both TUPLES are there. */
        private boolean isSo(int operator) {
            int value = fields[core.part(operator, 1) * FIELDS + core.part(operator, 2)];
            int third = core.part(operator, 3);
            int fourth = core.part(operator, 4);
            if (core.part(operator, 0) == 0) {
                return value == fields[third * FIELDS + fourth];
            }
            if (third == 0) {
                return value < fourth;
            }
            return third == 1 ? value == fourth : value > fourth;
        }

        private int costOf(int operator, int looks, int depth) {
            words[OP] = operator;
            words[SIZE] = looks;
            words[TICKETS] = tickets[operator];
            words[MARKS] = depth;
            for (int c = law == null ? -1 : law.clauses - 1; c >= 0; c--) {
                if (law.part(c, Text.KIND) == Text.COSTS && machine.isSo(law, c, words)) {
                    long costs = machine.value(law.code, law.part(c, Text.SUMS), words);
                    if (costs != Machine.BROKEN) {
                        return (int) Math.max(0, Math.min(99, costs));
                    }
                }
            }
            return looks;
        }
    }

    /** What ORDERS know of themselves while they are run. */
    private static final class Running {
        static final int HELD = 5;
        static final int TICKETS = 8;
        private static final int WORDS = 12;

        final Machine machine = new Machine();
        final int[] words = new int[WORDS];
        final int[] numbers = new int[Text.MOST_SUMS];
        int done = 0;
        int latestCome = NONE;
        int stoppedAt = NONE;

        void begin() {
            done = 0;
            latestCome = NONE;
            stoppedAt = NONE;
        }

        void setWords(Core core) {
            words[0] = core.latestStamp();
            words[1] = done;
            words[2] = latestCome;
            words[3] = core.resultsEver();
            words[4] = core.operators();
            for (int relation = 0; relation < RELATIONS; relation++) {
                words[HELD + relation] = core.held(relation);
            }
            for (int o = 0; o < MOST_OPERATORS; o++) {
                words[TICKETS + o] = core.hasOperator(o) ? core.part(o, Core.TICKETS) : NOTHING;
            }
        }
    }

    /** A TEXT that was read: its CLAUSES, and the code of their SUMS and TESTS. */
    private static final class Text {
        static final int COSTS = 0;
        static final int BARS = 1;
        static final int COME = 0;
        static final int STRIKE = 1;
        static final int WINDOW = 2;
        static final int INDEX = 3;

        static final int KIND = 0;
        static final int TIMES = 1;
        static final int TEST = 2;
        static final int SUMS = 3;
        static final int MOST_SUMS = 3;
        static final int CLAUSE_CELLS = 6;
        static final int MOST_CLAUSES = 12;
        /** Two cells for each step, and no more steps than bytes, as each comes of a TOKEN of its own. */
        static final int MOST_CODE = 2 * MOST_BYTES;

        final int[] rows;
        final int[] code;
        int clauses;
        int length;

        Text() {
            rows = new int[MOST_CLAUSES * CLAUSE_CELLS];
            code = new int[MOST_CODE];
            clauses = 0;
            length = 0;
        }

        Text(Text other) {
            rows = new int[other.clauses * CLAUSE_CELLS];
            code = new int[other.length];
            clauses = other.clauses;
            length = other.length;
            System.arraycopy(other.rows, 0, rows, 0, rows.length);
            System.arraycopy(other.code, 0, code, 0, code.length);
        }

        int part(int clause, int what) {
            return rows[clause * CLAUSE_CELLS + what];
        }

        void setPart(int clause, int what, int value) {
            rows[clause * CLAUSE_CELLS + what] = value;
        }

        void beginClause(int kind) {
            int at = clauses * CLAUSE_CELLS;
            for (int i = 0; i < CLAUSE_CELLS; i++) {
                rows[at + i] = NONE;
            }
            rows[at + KIND] = kind;
            rows[at + TIMES] = 1;
            clauses++;
        }

        /** Where the step is. */
        int emit(int step, int with) {
            int at = length;
            if (at + 1 < code.length) {
                code[at] = step;
                code[at + 1] = with;
                length = at + 2;
            }
            return at;
        }

        /** A leap goes to where the code ends now. */
        void landLeap(int leap) {
            if (leap + 1 < code.length) {
                code[leap + 1] = length;
            }
        }
    }

    /** Reckons SUMS and TESTS from their code, by a stack. */
    private static final class Machine {
        static final int STOP = 0;
        static final int NUMBER = 1;
        static final int WORD = 2;
        static final int NOT = 3;
        /** What stands behind can't matter: on to there with what there is; else that is dropped. */
        static final int LEAP_IF_SO = 4;
        static final int LEAP_IF_NOT = 5;
        static final int PLUS = 6;
        static final int MINUS = 7;
        static final int TIMES = 8;
        static final int BY = 9;
        static final int REST = 10;
        static final int BELOW = 11;
        static final int ABOVE = 12;
        static final int SAME = 13;

        private static final long FARTHEST = 1000000000L;
        /** Beyond all that a SUM can be. */
        static final long BROKEN = 2000000000L;
        /** No more than the PARTS of a TEXT ever stand on it. */
        private static final int DEPTH = 64;

        private final long[] stack = new long[DEPTH];

        /** Whether a CLAUSE's "if" is so; one without is always. */
        boolean isSo(Text text, int clause, int[] words) {
            int test = text.part(clause, Text.TEST);
            return test == NONE || value(text.code, test, words) == 1;
        }

        /** The SUMS of a CLAUSE; false if one is BROKEN. */
        boolean setSums(Text text, int clause, int[] words, int[] numbers) {
            for (int i = 0; i < Text.MOST_SUMS; i++) {
                int from = text.part(clause, Text.SUMS + i);
                long sum = from == NONE ? 0 : value(text.code, from, words);
                if (sum == BROKEN) {
                    return false;
                }
                numbers[i] = (int) sum;
            }
            return true;
        }

        /** What the code from there on comes to, a TEST 1 or 0; or BROKEN. */
        long value(int[] code, int from, int[] words) {
            int top = -1;
            for (int at = from; at >= 0 && at + 1 < code.length && code[at] != STOP; at += 2) {
                int step = code[at];
                int with = code[at + 1];
                if (step == NUMBER || step == WORD) {
                    if (top + 1 >= DEPTH || step == WORD && (with < 0 || with >= words.length)) {
                        return BROKEN;
                    }
                    top++;
                    stack[top] = step == NUMBER ? with : words[with];
                } else if (top < 0) {
                    return BROKEN;
                } else if (step == NOT) {
                    stack[top] = 1 - stack[top];
                } else if (step == LEAP_IF_SO || step == LEAP_IF_NOT) {
                    boolean leaps = stack[top] == (step == LEAP_IF_SO ? 1 : 0);
                    // Only ever forward, or this would not end.
                    at = leaps ? Math.max(at, with - 2) : at;
                    top = leaps ? top : top - 1;
                } else if (top < 1) {
                    return BROKEN;
                } else {
                    top--;
                    stack[top] = joined(step, stack[top], stack[top + 1]);
                    if (stack[top] == BROKEN) {
                        return BROKEN;
                    }
                }
            }
            return top == 0 ? stack[0] : BROKEN;
        }

        private static long joined(int step, long x, long y) {
            if ((step == BY || step == REST) && y == 0) {
                return BROKEN;
            }
            long z;
            switch (step) {
                case PLUS:
                    z = x + y;
                    break;
                case MINUS:
                    z = x - y;
                    break;
                case TIMES:
                    z = x * y;
                    break;
                case BY:
                    z = x / y;
                    break;
                case REST:
                    z = x % y;
                    break;
                case BELOW:
                    z = x < y ? 1 : 0;
                    break;
                case ABOVE:
                    z = x > y ? 1 : 0;
                    break;
                default:
                    z = x == y ? 1 : 0;
                    break;
            }
            return z > FARTHEST || z < -FARTHEST ? BROKEN : z;
        }
    }

    /** The bytes that TEXTS and ROWS are read from. */
    private static final class Tape {
        private final byte[] bytes = new byte[MOST_BYTES];
        int length = 0;

        /** There must be room. */
        void put(int number) {
            for (int shift = 24; shift >= 0; shift -= 8) {
                bytes[length] = (byte) (number >> shift);
                length++;
            }
        }

        int at(int i) {
            return bytes[i] & 255;
        }
    }

    /** The TOKENS of a TEXT: single bytes as they are, rows of digits as DIGITS, words by their place among WORDS. */
    private static final class Tokens {
        static final int END = 256;
        static final int DIGITS = 257;
        static final int UNKNOWN = 258;
        static final int TICKETS = 259;
        static final int STAMP = 267;
        static final int HELD = 272;
        static final int COSTS = 273;
        static final int BARS = 274;
        static final int COME = 275;
        static final int INDEX = 278;
        static final int WITH = 279;
        static final int TO = 280;
        static final int TIMES = 281;
        static final int IF = 282;
        static final int OR = 283;
        static final int AND = 284;
        static final int NOT = 285;
        /** The words of LAWS are the first nine, those of ORDERS "tickets" and "stamp" to "held". */
        private static final String WORDS = "tickets op relation a b size marks mood stamp done latest results operators held costs bars come strike window index with to times if or and not";
        private static final int TOO_MUCH = 1001;

        final Tape tape = new Tape();
        final int[] kinds = new int[MOST_BYTES + 1];
        final int[] places = new int[MOST_BYTES + 1];
        final int[] numbers = new int[MOST_BYTES + 1];

        void readAll() {
            int many = 0;
            int at = 0;
            for (int i = 0; i < MOST_BYTES && at < tape.length; i++) {
                if (tape.at(at) == ' ') {
                    at++;
                } else {
                    places[many] = at;
                    at = readOne(many, at);
                    many++;
                }
            }
            kinds[many] = END;
            places[many] = tape.length;
        }

        /** Where what stands behind the TOKEN begins. */
        private int readOne(int i, int from) {
            int to = from;
            numbers[i] = 0;
            if (isFigure(tape.at(from))) {
                kinds[i] = DIGITS;
                for (; to < tape.length && isFigure(tape.at(to)); to++) {
                    // A row of many digits must not wrap round to a NUMBER that can be.
                    numbers[i] = Math.min(TOO_MUCH, numbers[i] * 10 + tape.at(to) - '0');
                }
                return to;
            }
            for (; to < tape.length && isLetter(tape.at(to)); to++) {
                continue;
            }
            kinds[i] = to == from ? tape.at(from) : wordAt(from, to);
            return Math.max(from + 1, to);
        }

        private static boolean isFigure(int sign) {
            return sign >= '0' && sign <= '9';
        }

        private static boolean isLetter(int sign) {
            return sign >= 'a' && sign <= 'z';
        }

        private int wordAt(int from, int to) {
            int word = TICKETS;
            int begin = 0;
            for (int i = 0; i <= WORDS.length(); i++) {
                if (i == WORDS.length() || WORDS.charAt(i) == ' ') {
                    if (i - begin == to - from && isSpelt(from, to, begin)) {
                        return word;
                    }
                    word++;
                    begin = i + 1;
                }
            }
            return UNKNOWN;
        }

        private boolean isSpelt(int from, int to, int begin) {
            for (int i = from; i < to; i++) {
                if (tape.at(i) != WORDS.charAt(begin + i - from)) {
                    return false;
                }
            }
            return true;
        }
    }

    /** Reads a TEXT; what can't go on leaves it at that TOKEN. */
    private static final class Reader {
        private static final int MOST_NUMBER = 1000;
        private static final int MOST_TIMES = 20;
        private static final int MOST_PARTS = 50;
        private static final int MOST_BRACKETS = 8;

        final Tokens tokens = new Tokens();
        final Text text = new Text();
        private boolean isLaw = false;
        private int parts = 0;
        private int at = 0;

        /** FAULT, NONE without; what was read is in text then, till the next is read. */
        int read(boolean asLaw) {
            isLaw = asLaw;
            parts = 0;
            at = 0;
            text.clauses = 0;
            text.length = 0;
            tokens.readAll();
            for (int i = 0; i < Text.MOST_CLAUSES; i++) {
                if (!readClause()) {
                    return tokens.places[at];
                }
                if (is(Tokens.END)) {
                    return NONE;
                }
                if (!skip(';')) {
                    return tokens.places[at];
                }
            }
            return tokens.places[at];
        }

        private boolean is(int kind) {
            return tokens.kinds[at] == kind;
        }

        /** On to the next TOKEN, if it is this one. */
        private boolean skip(int kind) {
            if (tokens.kinds[at] != kind || kind == Tokens.END) {
                return false;
            }
            at++;
            return true;
        }

        private boolean readClause() {
            int first = isLaw ? Tokens.COSTS : Tokens.COME;
            int last = isLaw ? Tokens.BARS : Tokens.INDEX;
            int kind = tokens.kinds[at] - first;
            if (kind < 0 || kind > last - first) {
                return false;
            }
            text.beginClause(kind);
            at++;
            if (!(isLaw ? kind == Text.BARS || readWhole(0) : readOrder(kind))) {
                return false;
            }
            if (!skip(Tokens.IF)) {
                return true;
            }
            text.setPart(text.clauses - 1, Text.TEST, text.length);
            if (!readTest(0)) {
                return false;
            }
            text.emit(Machine.STOP, 0);
            return true;
        }

        private boolean readOrder(int kind) {
            if (!readWhole(0)) {
                return false;
            }
            if (kind == Text.COME && !(skip(Tokens.WITH) && readWhole(1) && skip(Tokens.AND) && readWhole(2))) {
                return false;
            }
            if ((kind == Text.WINDOW || kind == Text.INDEX) && !(skip(Tokens.TO) && readWhole(1))) {
                return false;
            }
            if (!skip(Tokens.TIMES)) {
                return true;
            }
            int times = numberTo(MOST_TIMES);
            if (times < 1) {
                return false;
            }
            at++;
            text.setPart(text.clauses - 1, Text.TIMES, times);
            return true;
        }

        /** The i-th SUM of a CLAUSE. */
        private boolean readWhole(int i) {
            text.setPart(text.clauses - 1, Text.SUMS + i, text.length);
            if (!readSum(0)) {
                return false;
            }
            text.emit(Machine.STOP, 0);
            return true;
        }

        // The depth is how many brackets stand open.

        private boolean readTest(int depth) {
            if (!readBoth(depth)) {
                return false;
            }
            for (int i = 0; i < MOST_BYTES && skip(Tokens.OR); i++) {
                int leap = text.emit(Machine.LEAP_IF_SO, 0);
                if (!readBoth(depth)) {
                    return false;
                }
                text.landLeap(leap);
            }
            return true;
        }

        private boolean readBoth(int depth) {
            if (!readPlain(depth)) {
                return false;
            }
            for (int i = 0; i < MOST_BYTES && skip(Tokens.AND); i++) {
                int leap = text.emit(Machine.LEAP_IF_NOT, 0);
                if (!readPlain(depth)) {
                    return false;
                }
                text.landLeap(leap);
            }
            return true;
        }

        private boolean readPlain(int depth) {
            boolean isTurned = false;
            // A loop, as a call for each "not" would go too deep.
            for (int i = 0; i < MOST_BYTES && skip(Tokens.NOT); i++) {
                isTurned = !isTurned;
            }
            if (is('(')) {
                if (depth >= MOST_BRACKETS) {
                    return false;
                }
                at++;
                if (!readTest(depth + 1) || !skip(')')) {
                    return false;
                }
            } else if (!readCompared(depth)) {
                return false;
            }
            if (isTurned) {
                text.emit(Machine.NOT, 0);
            }
            return true;
        }

        private boolean readCompared(int depth) {
            if (!readSum(depth)) {
                return false;
            }
            int step = is('<') ? Machine.BELOW : is('>') ? Machine.ABOVE : Machine.SAME;
            if (!skip('<') && !skip('>') && !skip('=') || !readSum(depth)) {
                return false;
            }
            text.emit(step, 0);
            return true;
        }

        private boolean readSum(int depth) {
            if (!readTerm(depth)) {
                return false;
            }
            for (int i = 0; i < MOST_BYTES && (is('+') || is('-')); i++) {
                int step = is('+') ? Machine.PLUS : Machine.MINUS;
                at++;
                if (!readTerm(depth)) {
                    return false;
                }
                text.emit(step, 0);
            }
            return true;
        }

        private boolean readTerm(int depth) {
            if (!readPart(depth)) {
                return false;
            }
            for (int i = 0; i < MOST_BYTES && (is('*') || is('/') || is('%')); i++) {
                int step = is('*') ? Machine.TIMES : is('/') ? Machine.BY : Machine.REST;
                at++;
                if (!readPart(depth)) {
                    return false;
                }
                text.emit(step, 0);
            }
            return true;
        }

        private boolean readPart(int depth) {
            if (!is('[')) {
                return parts < MOST_PARTS && readSingle();
            }
            if (depth >= MOST_BRACKETS) {
                return false;
            }
            at++;
            return readSum(depth + 1) && skip(']');
        }

        private boolean readSingle() {
            parts++;
            int kind = tokens.kinds[at];
            int with = NONE;
            if (kind == Tokens.DIGITS) {
                with = numberTo(MOST_NUMBER);
            } else if (isLaw) {
                with = kind >= Tokens.TICKETS && kind <= Tokens.STAMP ? kind - Tokens.TICKETS : NONE;
            } else if (kind == Tokens.HELD || kind == Tokens.TICKETS) {
                at++;
                int which = numberTo((kind == Tokens.HELD ? RELATIONS : MOST_OPERATORS) - 1);
                with = which == NONE ? NONE : which + (kind == Tokens.HELD ? Running.HELD : Running.TICKETS);
            } else if (kind >= Tokens.STAMP && kind < Tokens.HELD) {
                with = kind - Tokens.STAMP;
            }
            if (with == NONE) {
                return false;
            }
            at++;
            text.emit(kind == Tokens.DIGITS ? Machine.NUMBER : Machine.WORD, with);
            return true;
        }

        /** The TOKEN, if it is a NUMBER and not above that one; else NONE. */
        private int numberTo(int most) {
            boolean isFit = tokens.kinds[at] == Tokens.DIGITS && tokens.numbers[at] <= most;
            return isFit ? tokens.numbers[at] : NONE;
        }
    }
}
