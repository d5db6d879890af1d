import java.util.*;
import java.util.regex.*;

/**
 * A second desk, written from the document a second time and in other ways (texts by patterns, items and facts as
 * sets of numbers, rows as lists), so that both can be held against one another. Its calls answer THROWN_INDEX and
 * THROWN_ELEMENT where the document wants an exception.
 */
final class Oracle {
    static final int NONE = -1;
    static final int THROWN_INDEX = -101;
    static final int THROWN_ELEMENT = -102;

    private final StringBuilder tape = new StringBuilder();
    private int fault = 0;
    private int faultPlace = NONE;
    private Told told = new Told();
    private Table table = new Table(told, -1, 0, 0, false);
    private Reading now = new Reading(List.of(), 0, 0);
    private final Deque<Reading> undone = new ArrayDeque<>();
    private Reading image = null;
    private final List<int[]> entries = new ArrayList<>();
    private int knownBy = NONE;
    private final Map<Integer, Table> withouts = new HashMap<>();

    /** What is READ. */
    private static final class Reading {
        final List<Integer> states;
        final int reduces;
        final int tokens;

        Reading(List<Integer> states, int reduces, int tokens) {
            this.states = states;
            this.reduces = reduces;
            this.tokens = tokens;
        }
    }

    private static final class Fault extends Exception {
        private static final long serialVersionUID = 1;
        final int number;
        final int place;

        Fault(int number, int place) {
            this.number = number;
            this.place = place;
        }
    }

    /** A TEXT. */
    private static final class Told {
        final List<String> tokens = new ArrayList<>();
        final List<String> kinds = new ArrayList<>();
        /** Of each RULE its KIND, then the numbers of its SYMBOLS. */
        final List<List<Integer>> rules = new ArrayList<>();
        final Map<Integer, int[]> ranks = new HashMap<>();
        int lines = 0;

        int number(String name) {
            if (tokens.contains(name)) {
                return tokens.indexOf(name);
            }
            return kinds.contains(name) ? 10 + kinds.indexOf(name) : NONE;
        }

        int rankOfRule(int rule) {
            int rank = 0;
            for (int symbol : rules.get(rule).subList(1, rules.get(rule).size())) {
                if (symbol < 10) {
                    rank = ranks.containsKey(symbol) ? ranks.get(symbol)[0] : 0;
                }
            }
            return rank;
        }
    }

    private static Told parse(String text) throws Fault {
        List<String> words = new ArrayList<>();
        List<Integer> places = new ArrayList<>();
        Matcher matcher = Pattern.compile("[a-z]+|[0-9]+|[^a-z0-9 \n]", Pattern.DOTALL).matcher(text);
        while (matcher.find()) {
            words.add(matcher.group());
            places.add(matcher.start());
        }
        words.add("");
        places.add(text.length());
        Told told = new Told();
        int at = 0;
        while (!words.get(at).isEmpty()) {
            at = line(told, words, places, at);
            told.lines++;
        }
        return told;
    }

    private static boolean isName(String word) {
        return word.matches("[a-z]{1,6}") && !word.matches("token|kind|rule|rank");
    }

    private static void need(boolean holds, int number, int place) throws Fault {
        if (!holds) {
            throw new Fault(number, place);
        }
    }

    private static int line(Told told, List<String> words, List<Integer> places, int from) throws Fault {
        int at = from;
        String first = words.get(at);
        need(first.matches("token|kind|rule|rank"), 1, places.get(at));
        need(!first.equals("token") || told.tokens.size() < 7, 2, places.get(at));
        need(!first.equals("kind") || told.kinds.size() < 5, 2, places.get(at));
        need(!first.equals("rule") || told.rules.size() < 12, 2, places.get(at));
        at++;
        String name = words.get(at);
        int place = places.get(at);
        need(isName(name), 1, place);
        at++;
        if (first.equals("token") || first.equals("kind")) {
            need(told.number(name) == NONE, 3, place);
            (first.equals("token") ? told.tokens : told.kinds).add(name);
        } else if (first.equals("rule")) {
            need(told.kinds.contains(name), 4, place);
            List<Integer> rule = new ArrayList<>(List.of(told.kinds.indexOf(name)));
            while (!words.get(at).equals(";")) {
                need(isName(words.get(at)), 1, places.get(at));
                need(rule.size() <= 4, 2, places.get(at));
                need(told.number(words.get(at)) != NONE, 4, places.get(at));
                rule.add(told.number(words.get(at)));
                at++;
            }
            need(!told.rules.contains(rule), 5, places.get(at));
            told.rules.add(rule);
        } else {
            need(told.tokens.contains(name), 4, place);
            need(!told.ranks.containsKey(told.number(name)), 3, place);
            int rank = number(words.get(at), places.get(at), 1, 9);
            int side = number(words.get(at + 1), places.get(at + 1), 0, 2);
            told.ranks.put(told.number(name), new int[] {rank, side});
            at += 2;
        }
        need(words.get(at).equals(";"), 1, places.get(at));
        return at + 1;
    }

    private static int number(String word, int place, int least, int most) throws Fault {
        need(word.matches("[0-9]+"), 1, place);
        java.math.BigInteger value = new java.math.BigInteger(word);
        need(value.compareTo(java.math.BigInteger.valueOf(least)) >= 0
            && value.compareTo(java.math.BigInteger.valueOf(most)) <= 0, 2, place);
        return value.intValue();
    }

    /** The tables of a TEXT: without a RULE, with ranks as told (0), without them (1) or all right (2). */
    private static final class Table {
        final Told told;
        final int without;
        final int start;
        final int ranked;
        final int startRule;
        final int end;
        boolean tooMany = false;
        final List<TreeSet<Integer>> kernels = new ArrayList<>();
        final List<TreeSet<Integer>> closures = new ArrayList<>();
        final List<Integer> entry = new ArrayList<>();
        final List<Map<Integer, Integer>> moves = new ArrayList<>();
        /** STATE, ITEM, TERMINAL. */
        final Set<List<Integer>> behind = new HashSet<>();
        final List<int[]> actions = new ArrayList<>();
        final List<int[]> conflicts = new ArrayList<>();

        Table(Told told, int without, int start, int ranked, boolean byFollow) {
            this.told = told;
            this.without = without;
            this.start = start;
            this.ranked = ranked;
            startRule = told.rules.size();
            end = told.tokens.size();
            if (!told.kinds.isEmpty()) {
                makeStates();
                if (!tooMany) {
                    makeBehind();
                    makeActions(byFollow);
                }
            }
        }

        List<Integer> symbols(int rule) {
            return rule == startRule ? List.of(10 + start) : told.rules.get(rule).subList(1, told.rules.get(rule).size());
        }

        List<Integer> rulesOf(int kind) {
            List<Integer> all = new ArrayList<>();
            for (int rule = 0; rule < startRule; rule++) {
                if (rule != without && told.rules.get(rule).get(0) == kind) {
                    all.add(rule);
                }
            }
            return all;
        }

        /** By so many steps: no more than there are KINDS are ever needed. */
        boolean empty(int kind, int steps) {
            for (int rule : rulesOf(kind)) {
                boolean all = true;
                for (int symbol : symbols(rule)) {
                    all = all && symbol >= 10 && steps > 0 && empty(symbol - 10, steps - 1);
                }
                if (all) {
                    return true;
                }
            }
            return false;
        }

        private final Map<Integer, Boolean> empties = new HashMap<>();

        boolean empty(int symbol) {
            if (symbol < 10) {
                return false;
            }
            return empties.computeIfAbsent(symbol, s -> empty(s - 10, told.kinds.size()));
        }

        boolean allEmpty(List<Integer> symbols) {
            return symbols.stream().allMatch(this::empty);
        }

        private final Map<List<Integer>, Set<Integer>> firsts = new HashMap<>();

        /** By what can be reached from the SYMBOLS through first places. */
        Set<Integer> first(List<Integer> row) {
            Set<Integer> known = firsts.get(row);
            if (known != null) {
                return known;
            }
            Set<Integer> seen = new HashSet<>();
            Deque<List<Integer>> todo = new ArrayDeque<>(List.of(row));
            while (!todo.isEmpty()) {
                for (int symbol : todo.pop()) {
                    if (seen.add(symbol) && symbol >= 10) {
                        for (int rule : rulesOf(symbol - 10)) {
                            todo.push(symbols(rule));
                        }
                    }
                    if (!empty(symbol)) {
                        break;
                    }
                }
            }
            seen.removeIf(symbol -> symbol >= 10);
            firsts.put(row, seen);
            return seen;
        }

        Set<Integer> follow(int kind) {
            Set<Integer> set = new TreeSet<>();
            Set<Integer> kinds = new HashSet<>(List.of(kind));
            Deque<Integer> todo = new ArrayDeque<>(kinds);
            while (!todo.isEmpty()) {
                int one = todo.pop();
                if (one == start) {
                    set.add(end);
                }
                for (int rule = 0; rule < startRule; rule++) {
                    List<Integer> row = rule == without ? List.of() : symbols(rule);
                    for (int k = 0; k < row.size(); k++) {
                        if (row.get(k) == 10 + one) {
                            List<Integer> tail = row.subList(k + 1, row.size());
                            set.addAll(first(tail));
                            if (allEmpty(tail) && kinds.add(told.rules.get(rule).get(0))) {
                                todo.push(told.rules.get(rule).get(0));
                            }
                        }
                    }
                }
            }
            return set;
        }

        /** The SYMBOL behind the DOT of an ITEM (ten times its RULE and its DOT), NONE at the end. */
        int ahead(int item) {
            List<Integer> row = symbols(item / 10);
            return item % 10 < row.size() ? row.get(item % 10) : NONE;
        }

        List<Integer> tail(int item) {
            List<Integer> row = symbols(item / 10);
            return row.subList(item % 10 + 1, row.size());
        }

        private TreeSet<Integer> close(TreeSet<Integer> kernel) {
            TreeSet<Integer> all = new TreeSet<>(kernel);
            Deque<Integer> todo = new ArrayDeque<>(kernel);
            while (!todo.isEmpty()) {
                int symbol = ahead(todo.pop());
                if (symbol >= 10) {
                    for (int rule : rulesOf(symbol - 10)) {
                        if (all.add(10 * rule)) {
                            todo.push(10 * rule);
                        }
                    }
                }
            }
            return all;
        }

        private void addState(TreeSet<Integer> kernel, int symbol) {
            kernels.add(kernel);
            closures.add(close(kernel));
            entry.add(symbol);
            moves.add(new TreeMap<>());
        }

        private void makeStates() {
            addState(new TreeSet<>(Set.of(10 * startRule)), -2);
            for (int state = 0; state < kernels.size() && !tooMany; state++) {
                TreeMap<Integer, TreeSet<Integer>> targets = new TreeMap<>();
                for (int item : closures.get(state)) {
                    if (ahead(item) != NONE) {
                        targets.computeIfAbsent(ahead(item), s -> new TreeSet<>()).add(item + 1);
                    }
                }
                for (int symbol : targets.keySet()) {
                    if (!kernels.contains(targets.get(symbol))) {
                        addState(targets.get(symbol), symbol);
                    }
                    moves.get(state).put(symbol, kernels.indexOf(targets.get(symbol)));
                }
                tooMany = kernels.size() > 48;
            }
        }

        private void makeBehind() {
            Deque<List<Integer>> todo = new ArrayDeque<>();
            todo.add(List.of(0, 10 * startRule, end));
            for (int state = 0; state < kernels.size(); state++) {
                for (int item : closures.get(state)) {
                    if (ahead(item) >= 10) {
                        for (int rule : rulesOf(ahead(item) - 10)) {
                            for (int terminal : first(tail(item))) {
                                todo.add(List.of(state, 10 * rule, terminal));
                            }
                        }
                    }
                }
            }
            while (!todo.isEmpty()) {
                List<Integer> fact = todo.pop();
                if (behind.add(fact)) {
                    spread(fact, todo);
                }
            }
        }

        private void spread(List<Integer> fact, Deque<List<Integer>> todo) {
            int symbol = ahead(fact.get(1));
            if (symbol == NONE) {
                return;
            }
            todo.push(List.of(moves.get(fact.get(0)).get(symbol), fact.get(1) + 1, fact.get(2)));
            if (symbol >= 10 && allEmpty(tail(fact.get(1)))) {
                for (int rule : rulesOf(symbol - 10)) {
                    todo.push(List.of(fact.get(0), 10 * rule, fact.get(2)));
                }
            }
        }

        int atEnd(int rule) {
            return 10 * rule + symbols(rule).size();
        }

        Set<Integer> look(int state, int rule) {
            Set<Integer> set = new TreeSet<>();
            for (int terminal = 0; terminal <= end; terminal++) {
                if (behind.contains(List.of(state, atEnd(rule), terminal))) {
                    set.add(terminal);
                }
            }
            return set;
        }

        private int rankOf(int token) {
            return ranked == 1 || !told.ranks.containsKey(token) ? 0 : told.ranks.get(token)[0];
        }

        private void makeActions(boolean byFollow) {
            for (int state = 0; state < kernels.size(); state++) {
                int[] row = new int[end + 1];
                for (int terminal = 0; terminal <= end; terminal++) {
                    TreeSet<Integer> reduces = new TreeSet<>();
                    for (int rule = 0; rule < startRule; rule++) {
                        if (rule != without && closures.get(state).contains(atEnd(rule))) {
                            Set<Integer> set = byFollow ? follow(told.rules.get(rule).get(0)) : look(state, rule);
                            if (set.contains(terminal)) {
                                reduces.add(rule);
                            }
                        }
                    }
                    boolean accepts = terminal == end && closures.get(state).contains(10 * startRule + 1);
                    row[terminal] = decide(state, terminal, accepts, reduces);
                    for (int rule : reduces) {
                        conflicts.add(new int[] {state, terminal, row[terminal], rule});
                    }
                }
                actions.add(row);
            }
        }

        /** Takes out of the RULES that REDUCE that which goes, or is left out without a CONFLICT. */
        private int decide(int state, int terminal, boolean accepts, TreeSet<Integer> reduces) {
            if (accepts) {
                return 3000;
            }
            Integer target = terminal == end ? null : moves.get(state).get(terminal);
            int shift = target == null ? 0 : 1000 + target;
            if (reduces.isEmpty()) {
                return shift;
            }
            int rule = reduces.first();
            if (target == null) {
                reduces.remove(rule);
                return 2000 + rule;
            }
            int mine = ranked == 1 ? 0 : told.rankOfRule(rule);
            int other = rankOf(terminal);
            if (mine == 0 || other == 0) {
                return shift;
            }
            reduces.remove(rule);
            if (mine != other) {
                return mine > other ? 2000 + rule : shift;
            }
            int side = ranked == 2 ? 1 : told.ranks.get(terminal)[1];
            return side == 0 ? 2000 + rule : side == 1 ? shift : 0;
        }

        int move(int state, int symbol) {
            return moves.get(state).getOrDefault(symbol, -2);
        }

        int walk(int state, List<Integer> row) {
            int at = state;
            for (int symbol : row) {
                at = at < 0 ? at : move(at, symbol);
            }
            return at;
        }

        int actionsIn(int state) {
            return (int) Arrays.stream(actions.get(state)).filter(action -> action != 0).count();
        }

        // -- READING

        /** What is READ behind a TERMINAL; null: it is WRONG. */
        Reading come(Reading from, int terminal) {
            List<Integer> row = new ArrayList<>(from.states);
            int reduces = 0;
            while (!row.isEmpty()) {
                int action = actions.get(row.get(row.size() - 1))[terminal];
                if (action == 0) {
                    return null;
                }
                if (action == 3000) {
                    return new Reading(row, from.reduces + reduces, from.tokens);
                }
                if (action < 2000) {
                    row.add(action - 1000);
                    return row.size() > 40 ? null : new Reading(row, from.reduces + reduces, from.tokens + 1);
                }
                reduces++;
                if (reduces > 60) {
                    return null;
                }
                int rule = action - 2000;
                row = row.subList(0, row.size() - symbols(rule).size());
                row = new ArrayList<>(row);
                row.add(move(row.get(row.size() - 1), 10 + told.rules.get(rule).get(0)));
                if (row.size() > 40) {
                    return null;
                }
            }
            return null;
        }

        Reading fresh() {
            return new Reading(kernels.isEmpty() ? List.of() : List.of(0), 0, 0);
        }

        boolean sentence(List<Integer> tokens) {
            Reading reading = fresh();
            for (int token : tokens) {
                reading = reading == null ? null : come(reading, token);
            }
            return reading != null && come(reading, end) != null;
        }

        // -- what MOVES do

        private List<List<Integer>> kindMoves = null;
        /** Of each two MOVES, by their numbers there. */
        private boolean[][] reads = null;
        private boolean[][] includes = null;

        List<List<Integer>> kindMoves() {
            if (kindMoves == null) {
                kindMoves = new ArrayList<>();
                for (int state = 0; state < kernels.size(); state++) {
                    for (int kind = 0; kind < told.kinds.size(); kind++) {
                        if (move(state, 10 + kind) >= 0) {
                            kindMoves.add(List.of(state, kind));
                        }
                    }
                }
                relate();
            }
            return kindMoves;
        }

        private void relate() {
            int size = kindMoves.size();
            reads = new boolean[size][size];
            includes = new boolean[size][size];
            for (int one = 0; one < size; one++) {
                for (int other = 0; other < size; other++) {
                    reads[one][other] = reads(kindMoves.get(one), kindMoves.get(other));
                    includes[one][other] = includes(kindMoves.get(one), kindMoves.get(other));
                }
            }
        }

        private boolean reads(List<Integer> one, List<Integer> other) {
            return move(one.get(0), 10 + one.get(1)) == other.get(0) && empty(10 + other.get(1));
        }

        private boolean includes(List<Integer> one, List<Integer> other) {
            for (int rule : rulesOf(other.get(1))) {
                List<Integer> row = symbols(rule);
                for (int k = 0; k < row.size(); k++) {
                    if (row.get(k) == 10 + one.get(1) && allEmpty(row.subList(k + 1, row.size()))
                        && walk(other.get(0), row.subList(0, k)) == one.get(0)) {
                        return true;
                    }
                }
            }
            return false;
        }

        int pairs(boolean thatRead) {
            int sum = 0;
            for (int one = 0; one < kindMoves().size(); one++) {
                for (int other = 0; other < kindMoves().size(); other++) {
                    sum += (thatRead ? reads : includes)[one][other] ? 1 : 0;
                }
            }
            return sum;
        }

        Set<Integer> after(List<Integer> move) {
            Set<Integer> set = new TreeSet<>();
            Set<Integer> seen = new HashSet<>(Set.of(kindMoves().indexOf(move)));
            Deque<Integer> todo = new ArrayDeque<>(seen);
            while (!todo.isEmpty()) {
                int number = todo.pop();
                List<Integer> one = kindMoves().get(number);
                for (int symbol : moves.get(move(one.get(0), 10 + one.get(1))).keySet()) {
                    if (symbol < 10) {
                        set.add(symbol);
                    }
                }
                if (one.equals(List.of(0, start))) {
                    set.add(end);
                }
                for (int other = 0; other < kindMoves().size(); other++) {
                    if ((reads[number][other] || includes[number][other]) && seen.add(other)) {
                        todo.push(other);
                    }
                }
            }
            return set;
        }

        int lookbacks() {
            Set<List<Integer>> all = new HashSet<>();
            for (int from = 0; from < kernels.size(); from++) {
                for (int rule = 0; rule < startRule; rule++) {
                    int to = walk(from, symbols(rule));
                    if (to >= 0 && closures.get(to).contains(atEnd(rule))
                        && move(from, 10 + told.rules.get(rule).get(0)) >= 0) {
                        all.add(List.of(to, rule, from));
                    }
                }
            }
            return all.size();
        }

        int rings() {
            List<List<Integer>> all = kindMoves();
            Set<Set<Integer>> rings = new HashSet<>();
            List<Set<Integer>> reached = new ArrayList<>();
            for (int k = 0; k < all.size(); k++) {
                Set<Integer> seen = new TreeSet<>();
                Deque<Integer> todo = new ArrayDeque<>(List.of(k));
                while (!todo.isEmpty()) {
                    int one = todo.pop();
                    for (int other = 0; other < all.size(); other++) {
                        if (!seen.contains(other) && includes[one][other]) {
                            seen.add(other);
                            todo.push(other);
                        }
                    }
                }
                reached.add(seen);
            }
            for (int k = 0; k < all.size(); k++) {
                Set<Integer> ring = new TreeSet<>(Set.of(k));
                for (int other : reached.get(k)) {
                    if (reached.get(other).contains(k)) {
                        ring.add(other);
                    }
                }
                if (ring.size() > 1) {
                    rings.add(ring);
                }
            }
            return rings.size();
        }

        // -- SHORTEST

        private static final Comparator<String> SHORTER =
            Comparator.comparingInt(String::length).thenComparing(Comparator.naturalOrder());

        private Map<Integer, String> shortests = null;

        /** The KINDS that have one, settled from the shortest one on. */
        Map<Integer, String> shortestOfKinds() {
            if (shortests != null) {
                return shortests;
            }
            Map<Integer, String> settled = new HashMap<>();
            while (true) {
                String best = null;
                int bestKind = NONE;
                for (int rule = 0; rule < startRule; rule++) {
                    int kind = told.rules.get(rule).get(0);
                    if (settled.containsKey(kind)) {
                        continue;
                    }
                    StringBuilder row = new StringBuilder();
                    for (int symbol : symbols(rule)) {
                        String part = symbol < 10 ? "" + symbol : settled.get(symbol - 10);
                        if (part == null) {
                            row = null;
                            break;
                        }
                        row.append(part);
                    }
                    if (row != null && row.length() <= 40 && (best == null || SHORTER.compare(row.toString(), best) < 0)) {
                        best = row.toString();
                        bestKind = kind;
                    }
                }
                if (best == null) {
                    shortests = settled;
                    return settled;
                }
                settled.put(bestKind, best);
            }
        }

        private Map<Integer, String> toStates = null;

        Map<Integer, String> shortestToStates() {
            if (toStates != null) {
                return toStates;
            }
            Map<Integer, String> open = new HashMap<>(Map.of(0, ""));
            Map<Integer, String> settled = new HashMap<>();
            while (!open.isEmpty()) {
                int state = Collections.min(open.keySet(), (a, b) -> SHORTER.compare(open.get(a), open.get(b)));
                String row = open.remove(state);
                settled.put(state, row);
                for (int symbol : moves.get(state).keySet()) {
                    String part = symbol < 10 ? "" + symbol : shortestOfKinds().get(symbol - 10);
                    int target = move(state, symbol);
                    if (part != null && !settled.containsKey(target) && row.length() + part.length() <= 60) {
                        open.merge(target, row + part, (a, b) -> SHORTER.compare(a, b) <= 0 ? a : b);
                    }
                }
            }
            toStates = settled;
            return settled;
        }

        // -- PACKED

        final Map<Integer, Integer> offsets = new HashMap<>();
        private TreeMap<Integer, int[]> places = null;

        TreeMap<Integer, int[]> places() {
            if (places != null) {
                return places;
            }
            places = new TreeMap<>();
            List<Integer> order = new ArrayList<>();
            for (int state = 0; state < kernels.size(); state++) {
                order.add(state);
            }
            order.sort(Comparator.comparingInt((Integer state) -> -actionsIn(state)).thenComparingInt(state -> state));
            for (int state : order) {
                int offset = 0;
                while (clashes(state, offset)) {
                    offset++;
                }
                offsets.put(state, offset);
                for (int terminal = 0; terminal <= end; terminal++) {
                    if (actions.get(state)[terminal] != 0) {
                        places.put(offset + terminal, new int[] {actions.get(state)[terminal], state});
                    }
                }
            }
            return places;
        }

        private boolean clashes(int state, int offset) {
            for (int terminal = 0; terminal <= end; terminal++) {
                if (actions.get(state)[terminal] != 0 && places.containsKey(offset + terminal)) {
                    return true;
                }
            }
            return false;
        }
    }

    // ---- the calls

    private static int bits(Collection<Integer> set) {
        return set.stream().mapToInt(k -> 1 << k).sum();
    }

    int feed(int a, int b, int c, int d, int e) {
        if (tape.length() > 680) {
            return NONE;
        }
        for (int number : new int[] {a, b, c, d, e}) {
            for (byte sign : java.nio.ByteBuffer.allocate(4).putInt(number).array()) {
                tape.append((char) (sign & 255));
            }
        }
        return tape.length();
    }

    int text(int n) {
        if (n < 0 || n > tape.length()) {
            return -2;
        }
        String text = tape.substring(0, n);
        tape.setLength(0);
        try {
            Told next = parse(text);
            Table made = new Table(next, -1, 0, 0, false);
            need(!made.tooMany, 2, n);
            told = next;
            table = made;
        } catch (Fault problem) {
            fault = problem.number;
            faultPlace = problem.place;
            return NONE;
        }
        fault = 0;
        faultPlace = NONE;
        now = table.fresh();
        undone.clear();
        image = null;
        entries.clear();
        knownBy = NONE;
        withouts.clear();
        return told.lines;
    }

    int fault(int what) {
        return what == 0 ? fault : what == 1 ? faultPlace : NONE;
    }

    int named(int letters) {
        StringBuilder name = new StringBuilder();
        for (int shift = 25; shift >= 0; shift -= 5) {
            name.append((char) ('`' + (letters >> shift & 31)));
        }
        String word = name.toString().replaceAll("`+$", "");
        return letters >>> 30 == 0 ? told.number(word) : NONE;
    }

    private boolean hasToken(int token) {
        return token >= 0 && token < told.tokens.size();
    }

    private boolean hasKind(int kind) {
        return kind >= 0 && kind < told.kinds.size();
    }

    private boolean hasRule(int rule) {
        return rule >= 0 && rule < told.rules.size();
    }

    private boolean hasState(int state) {
        return state >= 0 && state < table.kernels.size();
    }

    int token(int token, int what) {
        if (!hasToken(token) || what < 0 || what > 1) {
            return NONE;
        }
        return told.ranks.getOrDefault(token, new int[2])[what];
    }

    int kind(int kind, int what) {
        if (!hasKind(kind)) {
            return THROWN_INDEX;
        }
        switch (what) {
            case 0:
                return table.empty(10 + kind) ? 1 : 0;
            case 1:
                return bits(table.first(List.of(10 + kind)));
            case 2:
                return bits(table.follow(kind));
            case 3:
                return table.rulesOf(kind).size();
            case 4:
                return table.shortestOfKinds().containsKey(kind) ? table.shortestOfKinds().get(kind).length() : -2;
            default:
                return THROWN_ELEMENT;
        }
    }

    int rule(int rule, int what) {
        if (!hasRule(rule) || what < 0 || what > 6) {
            return NONE;
        }
        List<Integer> row = told.rules.get(rule);
        if (what == 0) {
            return row.get(0);
        }
        if (what == 1) {
            return row.size() - 1;
        }
        if (what == 6) {
            return told.rankOfRule(rule);
        }
        return what - 1 < row.size() ? row.get(what - 1) : -2;
    }

    int state(int state, int what) {
        if (!hasState(state) || what < 0 || what > 4) {
            return NONE;
        }
        Map<Integer, String> rows = table.shortestToStates();
        int[] all = {table.kernels.get(state).size(), table.closures.get(state).size(), table.entry.get(state),
            rows.containsKey(state) ? rows.get(state).length() : -2, table.actionsIn(state)};
        return all[what];
    }

    int item(int state, int k) {
        if (!hasState(state) || k < 0) {
            return NONE;
        }
        List<Integer> kernel = new ArrayList<>(table.kernels.get(state));
        return k < kernel.size() ? kernel.get(k) : -2;
    }

    int move(int state, int symbol) {
        boolean isSymbol = hasToken(symbol) || hasKind(symbol - 10);
        return hasState(state) && isSymbol ? table.move(state, symbol) : NONE;
    }

    int action(int state, int terminal) {
        return hasState(state) && (hasToken(terminal) || terminal == table.end) ? table.actions.get(state)[terminal] : NONE;
    }

    int look(int state, int rule) {
        if (!hasState(state) || !hasRule(rule) && rule != table.startRule) {
            return NONE;
        }
        return table.closures.get(state).contains(table.atEnd(rule)) ? bits(table.look(state, rule)) : -2;
    }

    int after(int state, int kind) {
        if (!hasState(state) || !hasKind(kind)) {
            return NONE;
        }
        return table.move(state, 10 + kind) < 0 ? -2 : bits(table.after(List.of(state, kind)));
    }

    int relations(int what) {
        switch (what) {
            case 0:
                return table.kindMoves().size();
            case 1:
            case 2:
                return table.pairs(what == 1);
            case 3:
                return table.lookbacks();
            case 4:
                return table.rings();
            default:
                return NONE;
        }
    }

    int conflicts() {
        return table.conflicts.size();
    }

    int conflict(int conflict, int what) {
        boolean is = conflict >= 0 && conflict < table.conflicts.size() && what >= 0 && what <= 3;
        return is ? table.conflicts.get(conflict)[what] : NONE;
    }

    private static int kth(String row, int k) {
        return row != null && k < row.length() ? row.charAt(k) - '0' : -2;
    }

    int witness(int state, int k) {
        return !hasState(state) || k < 0 ? NONE : kth(table.shortestToStates().get(state), k);
    }

    int shortest(int kind, int k) {
        return !hasKind(kind) || k < 0 ? NONE : kth(table.shortestOfKinds().get(kind), k);
    }

    int offset(int state) {
        if (!hasState(state)) {
            return NONE;
        }
        table.places();
        return table.offsets.get(state);
    }

    int packed(int place, int what) {
        if (place < 0 || place > 999 || what < 0 || what > 1) {
            return NONE;
        }
        int[] laid = table.places().get(place);
        return laid == null ? -2 : laid[what];
    }

    private List<List<Integer>> rows(int length) {
        List<List<Integer>> all = new ArrayList<>(List.of(List.of()));
        for (int k = 0; k < length; k++) {
            List<List<Integer>> longer = new ArrayList<>();
            for (List<Integer> row : all) {
                for (int token = 0; token < told.tokens.size(); token++) {
                    List<Integer> next = new ArrayList<>(row);
                    next.add(token);
                    longer.add(next);
                }
            }
            all = longer;
        }
        return all;
    }

    int sentences(int n) {
        return n < 0 || n > 4 ? NONE : (int) rows(n).stream().filter(table::sentence).count();
    }

    int read(int token) {
        if (!hasToken(token) || table.kernels.isEmpty()) {
            return NONE;
        }
        Reading next = table.come(now, token);
        if (next == null) {
            return -2;
        }
        int reduces = next.reduces - now.reduces;
        undone.push(now);
        if (undone.size() > 20) {
            undone.removeLast();
        }
        now = next;
        return reduces;
    }

    int whole() {
        if (table.kernels.isEmpty()) {
            return NONE;
        }
        return table.come(now, table.end) != null ? 1 : 0;
    }

    int expected() {
        int set = 0;
        for (int token = 0; token < table.end; token++) {
            set |= table.come(now, token) != null ? 1 << token : 0;
        }
        return set;
    }

    int stack(int k) {
        if (k < 0 || table.kernels.isEmpty()) {
            return NONE;
        }
        return k < now.states.size() ? now.states.get(now.states.size() - 1 - k) : -2;
    }

    /** Whether who is to go wins. */
    private boolean wins(Reading reading, int n) {
        for (int token = 0; n > 0 && token < table.end; token++) {
            Reading next = table.come(reading, token);
            if (next != null && !wins(next, n - 1)) {
                return true;
            }
        }
        return false;
    }

    int game(int n, int what) {
        if (n < 0 || n > 4 || what < 0 || what > 1 || table.kernels.isEmpty()) {
            return NONE;
        }
        if (what == 0) {
            return wins(now, n) ? 0 : 1;
        }
        for (int token = 0; n > 0 && token < table.end; token++) {
            Reading next = table.come(now, token);
            if (next != null && !wins(next, n - 1)) {
                return token;
            }
        }
        return -2;
    }

    /** The row of a number; null: there is none such. */
    private List<Integer> row(int length, int number) {
        for (List<Integer> row : length < 0 || length > 4 ? List.<List<Integer>>of() : rows(length)) {
            if (number(row) == number) {
                return row;
            }
        }
        return null;
    }

    private static int number(List<Integer> row) {
        int number = 0;
        for (int token : row) {
            number = number * 10 + token;
        }
        return number;
    }

    int note(int length, int row, boolean is) {
        if (entries.size() == 24 || row(length, row) == null) {
            return NONE;
        }
        entries.add(new int[] {length, row, is ? 1 : 0});
        return entries.size() - 1;
    }

    int strike(int note) {
        if (entries.size() == 24 || note < 0 || note >= entries.size()) {
            return NONE;
        }
        entries.add(new int[] {note});
        return entries.size() - 1;
    }

    boolean known(int n) {
        if (n < -1 || n > entries.size()) {
            return false;
        }
        knownBy = n;
        return true;
    }

    private int knownCount() {
        return knownBy < 0 ? entries.size() : knownBy;
    }

    private boolean counts(int entry) {
        for (int later = entry + 1; later < knownCount(); later++) {
            if (entries.get(later).length == 1 && entries.get(later)[0] == entry && counts(later)) {
                return false;
            }
        }
        return true;
    }

    private Table without(int rule) {
        return withouts.computeIfAbsent(rule, r -> new Table(told, r, 0, 0, false));
    }

    private List<Integer> missingRules() {
        List<Integer> rules = new ArrayList<>();
        for (int rule = 0; rule < told.rules.size(); rule++) {
            boolean all = !without(rule).tooMany;
            for (int entry = 0; entry < knownCount() && all; entry++) {
                int[] note = entries.get(entry);
                if (note.length == 3 && counts(entry)) {
                    all = without(rule).sentence(row(note[0], note[1])) == (note[2] == 1);
                }
            }
            if (all) {
                rules.add(rule);
            }
        }
        return rules;
    }

    int missing() {
        return bits(missingRules());
    }

    int ask(int length, int what) {
        if (length < 1 || length > 3 || what < 0 || what > 1) {
            return NONE;
        }
        if (told.tokens.isEmpty()) {
            return -2;
        }
        List<Integer> rules = missingRules();
        int best = Integer.MAX_VALUE;
        int bestRow = NONE;
        for (List<Integer> row : rows(length)) {
            int yes = 0;
            for (int rule : rules) {
                yes += without(rule).sentence(row) ? 1 : 0;
            }
            int worst = Math.max(yes, rules.size() - yes);
            if (worst < best) {
                best = worst;
                bestRow = number(row);
            }
        }
        return what == 0 ? bestRow : best;
    }

    int chance(int seed, int n) {
        if (seed < 0 || n < 1 || n > 9) {
            return NONE;
        }
        if (told.tokens.isEmpty()) {
            return -2;
        }
        long last = seed;
        int sum = 0;
        for (int draw = 0; draw < 10; draw++) {
            List<Integer> row = new ArrayList<>();
            for (int k = 0; k < n; k++) {
                last = (last * 1103515245L + 12345L) % (1L << 31);
                row.add((int) (last / 65536 % told.tokens.size()));
            }
            sum += table.sentence(row) ? 1 : 0;
        }
        return sum;
    }

    int tried(int what, int i) {
        Table other;
        if (i == 0 && (what == 0 || what == 1 || what == 4)) {
            other = new Table(told, -1, 0, what == 0 ? 1 : what == 1 ? 2 : 0, what == 4);
        } else if (what == 2 && hasRule(i)) {
            other = without(i);
        } else if (what == 3 && hasKind(i)) {
            other = new Table(told, -1, i, 0, false);
        } else {
            return NONE;
        }
        return other.tooMany ? -2 : other.conflicts.size();
    }

    int undo() {
        if (undone.isEmpty()) {
            return NONE;
        }
        now = undone.pop();
        return undone.size();
    }

    int keep() {
        image = now;
        return now.states.size();
    }

    int back() {
        if (image == null) {
            return NONE;
        }
        now = image;
        undone.clear();
        return now.states.size();
    }

    int count(int what) {
        int items = table.closures.stream().mapToInt(Set::size).sum();
        int moves = table.moves.stream().mapToInt(Map::size).sum();
        int actions = 0;
        for (int state = 0; state < table.kernels.size(); state++) {
            actions += table.actionsIn(state);
        }
        int[] all = {told.tokens.size(), told.kinds.size(), told.rules.size(), table.kernels.size(), items, moves,
            actions, now.reduces, now.tokens, now.states.size(),
            table.places().isEmpty() ? 0 : table.places().lastKey() + 1, entries.size(), knownCount(), undone.size()};
        return what >= 0 && what < all.length ? all[what] : NONE;
    }
}
