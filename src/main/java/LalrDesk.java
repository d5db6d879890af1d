import java.util.Arrays;
import java.util.NoSuchElementException;

/**
 * A desk that makes LALR tables of a told text, reads rows of tokens by them and looks for the rule that is missing.
 * Every row it works on is made with the object and used again: a call makes nothing that stays.
 */
public final class LalrDesk {
    public static final int NONE = -1;

    /** What most calls answer for something that could be there, but isn't. */
    private static final int NOTHING = -2;

    private static final int MOST_TOKENS = 7;
    private static final int MOST_KINDS = 5;
    private static final int MOST_RULES = 12;
    private static final int MOST_SYMBOLS = 4;
    private static final int MOST_STATES = 48;
    private static final int MOST_TERMINALS = MOST_TOKENS + 1;
    private static final int MOST_MOVES = MOST_STATES * MOST_KINDS;
    private static final int MOST_IN_ROW = 40;
    private static final int MOST_REDUCES = 60;
    private static final int MOST_UNDONE = 20;
    private static final int MOST_NOTES = 24;
    private static final int MOST_NOTED = 4;
    private static final int MOST_ASKED = 3;
    private static final int MOST_DRAWN = 9;
    private static final int DRAWS = 10;
    private static final int LOW_BITS = 0x7fffffff;

    private static final int FIRST_KIND = 10;
    private static final int SYMBOL_NUMBERS = FIRST_KIND + MOST_KINDS;
    private static final int DOTS = MOST_SYMBOLS + 1;
    /** START RULE, the last one, has two dots only: so that every set of items is the bits of one long. */
    private static final int ITEMS = MOST_RULES * DOTS + 2;

    private static final int SHIFT = 1000;
    private static final int REDUCE = 2000;
    private static final int ACCEPT = 3000;

    private static final int LEFT = 0;
    private static final int RIGHT = 1;
    private static final int GREATEST_RANK = 9;
    private static final int GREATEST_SIDE = 2;

    private static final int TAPE_LENGTH = 700;
    private static final int FED = 20;
    private static final int LONGEST_OF_KIND = 40;
    private static final int LONGEST_TO_STATE = 60;
    private static final int PLACES_ASKED = 1000;
    /** No state is laid more than eight places behind the last place taken: 384 would be enough. */
    private static final int PLACES = 400;

    /** Far above what any least set needs: there are no more steps than sets have bits. */
    private static final int MOST_ROUNDS = 1000000;

    private final int[] tape = new int[TAPE_LENGTH];
    private int taped;
    private final TextParser parser = new TextParser();
    private Tables tables = new Tables();
    private Tables spare = new Tables();
    private final Relations related = new Relations();
    private final ShortestRows rows = new ShortestRows();
    private final Packing packing = new Packing();
    private final Row reading = new Row(null);
    private final Row ladder;
    private final Row image = new Row(null);
    private boolean imaged;
    private final Past past = new Past();
    private final Notes notes = new Notes();
    private final Trials trials = new Trials();

    public LalrDesk() {
        Row lower = null;
        for (int step = 0; step < MOST_NOTED + 2; step++) {
            lower = new Row(lower);
        }
        ladder = lower;
    }

    // ---- the text

    public int feed(int a, int b, int c, int d, int e) {
        if (taped + FED > TAPE_LENGTH) {
            return NONE;
        }
        putBytes(a);
        putBytes(b);
        putBytes(c);
        putBytes(d);
        putBytes(e);
        return taped;
    }

    private void putBytes(int number) {
        for (int shift = 24; shift >= 0; shift -= 8) {
            if (taped < TAPE_LENGTH) {
                tape[taped] = number >>> shift & 255;
                taped++;
            }
        }
    }

    public int text(int n) {
        if (n < 0 || n > taped) {
            return NOTHING;
        }
        taped = 0;
        int lines = parser.linesOf(tape, n, spare.grammar);
        if (lines == NONE) {
            return NONE;
        }
        if (!spare.make(false)) {
            parser.blame(TextParser.TOO_MUCH, n);
            return NONE;
        }
        takeSpare();
        return lines;
    }

    private void takeSpare() {
        Tables made = spare;
        spare = tables;
        tables = made;
        related.make(tables);
        rows.make(tables);
        packing.make(tables);
        reading.begin(tables);
        past.forget();
        imaged = false;
        notes.forget();
        trials.forget();
    }

    public int fault(int what) {
        if (what == 0) {
            return parser.faultNumber;
        }
        return what == 1 ? parser.faultPlace : NONE;
    }

    public int named(int letters) {
        return tables.grammar.symbolNamed(letters);
    }

    public int token(int token, int what) {
        Grammar grammar = tables.grammar;
        if (!grammar.hasToken(token)) {
            return NONE;
        }
        if (what == 0) {
            return grammar.ranks[token];
        }
        return what == 1 ? grammar.sides[token] : NONE;
    }

    public int kind(int kind, int what) throws IndexOutOfBoundsException, NoSuchElementException {
        Grammar grammar = tables.grammar;
        if (!grammar.hasKind(kind)) {
            throw new IndexOutOfBoundsException("no such kind");
        }
        switch (what) {
            case 0:
                return grammar.isEmpty(kind) ? 1 : 0;
            case 1:
                return grammar.firsts[kind];
            case 2:
                return grammar.follows[kind];
            case 3:
                return grammar.rulesOf(kind);
            case 4:
                return rows.kindLengths[kind];
            default:
                throw new NoSuchElementException("no such what");
        }
    }

    public int rule(int rule, int what) {
        Grammar grammar = tables.grammar;
        if (!grammar.hasRule(rule)) {
            return NONE;
        }
        if (what == 0) {
            return grammar.kindOf(rule);
        }
        if (what == 1) {
            return grammar.lengthOf(rule);
        }
        if (what >= 2 && what < 2 + MOST_SYMBOLS) {
            return grammar.symbolAt(rule, what - 2);
        }
        return what == 2 + MOST_SYMBOLS ? grammar.rankOf(rule) : NONE;
    }

    // ---- states and actions

    public int state(int state, int what) {
        States states = tables.states;
        if (!states.has(state)) {
            return NONE;
        }
        switch (what) {
            case 0:
                return Long.bitCount(states.kernels[state]);
            case 1:
                return Long.bitCount(states.closures[state]);
            case 2:
                return states.entries[state];
            case 3:
                return rows.stateLengths[state];
            case 4:
                return tables.actionsIn(state);
            default:
                return NONE;
        }
    }

    public int item(int state, int k) {
        if (!tables.states.has(state) || k < 0) {
            return NONE;
        }
        return tables.states.kernelItem(state, k);
    }

    public int move(int state, int symbol) {
        if (!tables.states.has(state) || !tables.grammar.hasSymbol(symbol)) {
            return NONE;
        }
        return tables.states.moveBy(state, symbol);
    }

    public int action(int state, int terminal) {
        if (!tables.states.has(state) || !tables.grammar.hasTerminal(terminal)) {
            return NONE;
        }
        return tables.actionFor(state, terminal);
    }

    public int look(int state, int rule) {
        Grammar grammar = tables.grammar;
        if (!tables.states.has(state) || rule < 0 || rule > grammar.ruleCount) {
            return NONE;
        }
        int item = grammar.itemAtEnd(rule);
        return tables.states.hasItem(state, item) ? tables.states.behind(state, item) : NOTHING;
    }

    public int after(int state, int kind) {
        if (!tables.states.has(state) || !tables.grammar.hasKind(kind)) {
            return NONE;
        }
        return related.afterMove(state, kind);
    }

    public int relations(int what) {
        switch (what) {
            case 0:
                return related.moveCount;
            case 1:
                return related.readPairs;
            case 2:
                return related.includePairs;
            case 3:
                return related.lookbacks;
            case 4:
                return related.rings();
            default:
                return NONE;
        }
    }

    public int conflicts() {
        return tables.conflictCount();
    }

    public int conflict(int conflict, int what) {
        int cell = tables.cellOfConflict(conflict);
        if (cell < 0) {
            return NONE;
        }
        switch (what) {
            case 0:
                return cell / MOST_TERMINALS;
            case 1:
                return cell % MOST_TERMINALS;
            case 2:
                return tables.actionFor(cell / MOST_TERMINALS, cell % MOST_TERMINALS);
            case 3:
                return tables.ruleOfConflict(conflict, cell);
            default:
                return NONE;
        }
    }

    public int witness(int state, int k) {
        if (!tables.states.has(state) || k < 0) {
            return NONE;
        }
        return rows.tokenToState(state, k);
    }

    public int shortest(int kind, int k) {
        if (!tables.grammar.hasKind(kind) || k < 0) {
            return NONE;
        }
        return rows.tokenOfKind(kind, k);
    }

    public int offset(int state) {
        return tables.states.has(state) ? packing.offsets[state] : NONE;
    }

    public int packed(int place, int what) {
        if (place < 0 || place >= PLACES_ASKED || what < 0 || what > 1) {
            return NONE;
        }
        return what == 0 ? packing.actionAt(place) : packing.stateAt(place);
    }

    // ---- reading

    public int sentences(int n) {
        if (n < 0 || n > MOST_NOTED) {
            return NONE;
        }
        ladder.begin(tables);
        return sentencesFrom(tables, ladder, n);
    }

    private static int sentencesFrom(Tables tables, Row row, int left) {
        Row next = row.next;
        if (next == null) {
            return 0;
        }
        if (left <= 0) {
            next.copy(row);
            return next.take(tables, tables.grammar.tokenCount) >= 0 ? 1 : 0;
        }
        int sum = 0;
        for (int token = 0; token < tables.grammar.tokenCount; token++) {
            next.copy(row);
            if (next.take(tables, token) >= 0) {
                sum += sentencesFrom(tables, next, left - 1);
            }
        }
        return sum;
    }

    private boolean hasStates() {
        return tables.states.count > 0;
    }

    public int read(int token) {
        if (!tables.grammar.hasToken(token) || !hasStates()) {
            return NONE;
        }
        ladder.copy(reading);
        int reduces = ladder.take(tables, token);
        if (reduces >= 0) {
            past.add(reading);
            reading.copy(ladder);
        }
        return reduces;
    }

    public int whole() {
        if (!hasStates()) {
            return NONE;
        }
        ladder.copy(reading);
        return ladder.take(tables, tables.grammar.tokenCount) >= 0 ? 1 : 0;
    }

    public int expected() {
        int tokens = 0;
        for (int token = 0; token < tables.grammar.tokenCount; token++) {
            ladder.copy(reading);
            if (ladder.take(tables, token) >= 0) {
                tokens |= 1 << token;
            }
        }
        return tokens;
    }

    public int stack(int k) {
        if (k < 0 || !hasStates()) {
            return NONE;
        }
        return reading.stateBehindLast(k);
    }

    public int game(int n, int what) {
        if (n < 0 || n > MOST_NOTED || what < 0 || what > 1 || !hasStates()) {
            return NONE;
        }
        ladder.copy(reading);
        int token = winningToken(tables, ladder, n);
        if (what == 1) {
            return token;
        }
        return token >= 0 ? 0 : 1;
    }

    private static int winningToken(Tables tables, Row row, int left) {
        Row next = row.next;
        if (left <= 0 || next == null) {
            return NOTHING;
        }
        for (int token = 0; token < tables.grammar.tokenCount; token++) {
            next.copy(row);
            if (next.take(tables, token) >= 0 && winningToken(tables, next, left - 1) < 0) {
                return token;
            }
        }
        return NOTHING;
    }

    // ---- notes and what they tell

    public int note(int length, int row, boolean is) {
        int place = Trials.placeOf(length, row, tables.grammar.tokenCount);
        return place < 0 ? NONE : notes.addNote(place, is);
    }

    public int strike(int note) {
        return notes.addStrike(note);
    }

    public boolean known(int n) {
        return notes.limit(n);
    }

    public int missing() {
        trials.learn(tables.grammar, spare, ladder);
        return trials.missingBy(notes);
    }

    public int ask(int length, int what) {
        if (length < 1 || length > MOST_ASKED || what < 0 || what > 1) {
            return NONE;
        }
        int tokens = tables.grammar.tokenCount;
        if (tokens == 0) {
            return NOTHING;
        }
        trials.learn(tables.grammar, spare, ladder);
        int rules = trials.missingBy(notes);
        int place = trials.bestQuestion(length, tokens, rules);
        if (what == 1) {
            return trials.leftAtWorst(place, rules);
        }
        return Trials.numberOf(place, length);
    }

    public int chance(int seed, int n) {
        if (seed < 0 || n < 1 || n > MOST_DRAWN) {
            return NONE;
        }
        int tokens = tables.grammar.tokenCount;
        if (tokens <= 0) {
            return NOTHING;
        }
        int last = seed;
        int sum = 0;
        for (int draw = 0; draw < DRAWS; draw++) {
            ladder.begin(tables);
            boolean right = true;
            for (int k = 0; k < n; k++) {
                last = last * 1103515245 + 12345 & LOW_BITS;
                // the drawing goes on behind a wrong token, for the numbers go on from row to row
                right = right && ladder.take(tables, last / 65536 % tokens) >= 0;
            }
            if (right && ladder.take(tables, tokens) >= 0) {
                sum++;
            }
        }
        return sum;
    }

    public int tried(int what, int i) {
        if (!canTry(what, i)) {
            return NONE;
        }
        Grammar other = spare.grammar;
        other.copy(tables.grammar);
        if (what == 0) {
            Arrays.fill(other.ranks, 0);
        } else if (what == 1) {
            Arrays.fill(other.sides, RIGHT);
        } else if (what == 2) {
            other.leftOut = i;
        } else if (what == 3) {
            other.startKind = i;
        }
        return spare.make(what == 4) ? spare.conflictCount() : NOTHING;
    }

    private boolean canTry(int what, int i) {
        switch (what) {
            case 0:
            case 1:
            case 4:
                return i == 0;
            case 2:
                return tables.grammar.hasRule(i);
            case 3:
                return tables.grammar.hasKind(i);
            default:
                return false;
        }
    }

    // ---- taking back and counting

    public int undo() {
        return past.takeBack(reading);
    }

    public int keep() {
        image.copy(reading);
        imaged = true;
        return reading.size;
    }

    public int back() {
        if (!imaged) {
            return NONE;
        }
        reading.copy(image);
        past.forget();
        return reading.size;
    }

    public int count(int what) {
        switch (what) {
            case 0:
                return tables.grammar.tokenCount;
            case 1:
                return tables.grammar.kindCount;
            case 2:
                return tables.grammar.ruleCount;
            case 3:
                return tables.states.count;
            case 4:
                return tables.states.itemsInAll();
            case 5:
                return tables.states.movesInAll();
            case 6:
                return tables.actionsInAll();
            case 7:
                return reading.reduces;
            case 8:
                return reading.tokens;
            case 9:
                return reading.size;
            case 10:
                return packing.used;
            case 11:
                return notes.count;
            case 12:
                return notes.knownBy();
            case 13:
                return past.count;
            default:
                return NONE;
        }
    }

    private static boolean inBits(long bits, int k) {
        return k >= 0 && k < 64 && (bits >>> k & 1) != 0;
    }

    /** What a TEXT tells, with what is empty, first and following of it. */
    private static final class Grammar {
        int tokenCount;
        int kindCount;
        int ruleCount;
        int startKind;
        /** A rule that isn't used, though it keeps its number; NONE: there is none such. */
        int leftOut = NONE;
        final int[] names = new int[SYMBOL_NUMBERS];
        final int[] ranks = new int[MOST_TOKENS];
        final int[] sides = new int[MOST_TOKENS];
        final int[] ruleKinds = new int[MOST_RULES];
        final int[] ruleLengths = new int[MOST_RULES];
        final int[] ruleSymbols = new int[MOST_RULES * MOST_SYMBOLS];
        int empties;
        final int[] firsts = new int[MOST_KINDS];
        final int[] follows = new int[MOST_KINDS];

        void forget() {
            tokenCount = 0;
            kindCount = 0;
            ruleCount = 0;
            startKind = 0;
            leftOut = NONE;
            Arrays.fill(names, 0);
            Arrays.fill(ranks, 0);
            Arrays.fill(sides, 0);
        }

        void copy(Grammar other) {
            tokenCount = other.tokenCount;
            kindCount = other.kindCount;
            ruleCount = other.ruleCount;
            startKind = other.startKind;
            leftOut = other.leftOut;
            System.arraycopy(other.names, 0, names, 0, SYMBOL_NUMBERS);
            System.arraycopy(other.ranks, 0, ranks, 0, MOST_TOKENS);
            System.arraycopy(other.sides, 0, sides, 0, MOST_TOKENS);
            System.arraycopy(other.ruleKinds, 0, ruleKinds, 0, MOST_RULES);
            System.arraycopy(other.ruleLengths, 0, ruleLengths, 0, MOST_RULES);
            System.arraycopy(other.ruleSymbols, 0, ruleSymbols, 0, MOST_RULES * MOST_SYMBOLS);
        }

        boolean hasToken(int token) {
            return token >= 0 && token < tokenCount && token < MOST_TOKENS;
        }

        boolean hasKind(int kind) {
            return kind >= 0 && kind < kindCount && kind < MOST_KINDS;
        }

        boolean hasRule(int rule) {
            return rule >= 0 && rule < ruleCount && rule < MOST_RULES;
        }

        boolean hasSymbol(int symbol) {
            return symbol >= FIRST_KIND ? hasKind(symbol - FIRST_KIND) : hasToken(symbol);
        }

        boolean hasTerminal(int terminal) {
            return terminal >= 0 && terminal <= tokenCount;
        }

        /** START RULE, too, is in use. */
        boolean uses(int rule) {
            return rule >= 0 && rule <= ruleCount && rule != leftOut;
        }

        int symbolNamed(int letters) {
            for (int symbol = 0; symbol < SYMBOL_NUMBERS; symbol++) {
                if (hasSymbol(symbol) && names[symbol] == letters) {
                    return symbol;
                }
            }
            return NONE;
        }

        void addToken(int letters) {
            if (tokenCount < MOST_TOKENS) {
                names[tokenCount] = letters;
                tokenCount++;
            }
        }

        void addKind(int letters) {
            if (kindCount < MOST_KINDS) {
                names[FIRST_KIND + kindCount] = letters;
                kindCount++;
            }
        }

        /** The rule behind the last one is written here, but counts only when addRule is called. */
        void beginRule(int kind) {
            if (ruleCount < MOST_RULES) {
                ruleKinds[ruleCount] = kind;
                ruleLengths[ruleCount] = 0;
            }
        }

        /** Whether there was still room for one more symbol of the rule that was begun. */
        boolean addSymbol(int symbol) {
            if (ruleCount >= MOST_RULES || ruleLengths[ruleCount] >= MOST_SYMBOLS) {
                return false;
            }
            ruleSymbols[ruleCount * MOST_SYMBOLS + ruleLengths[ruleCount]] = symbol;
            ruleLengths[ruleCount]++;
            return true;
        }

        boolean ruleIsFull() {
            return ruleCount >= MOST_RULES || ruleLengths[ruleCount] >= MOST_SYMBOLS;
        }

        /** Whether the rule that was begun is another one than all ahead of it. */
        boolean addRule() {
            if (ruleCount >= MOST_RULES) {
                return false;
            }
            for (int rule = 0; rule < ruleCount; rule++) {
                if (isSameAsBegun(rule)) {
                    return false;
                }
            }
            ruleCount++;
            return true;
        }

        private boolean isSameAsBegun(int rule) {
            if (ruleKinds[rule] != ruleKinds[ruleCount] || ruleLengths[rule] != ruleLengths[ruleCount]) {
                return false;
            }
            for (int k = 0; k < ruleLengths[rule] && k < MOST_SYMBOLS; k++) {
                if (ruleSymbols[rule * MOST_SYMBOLS + k] != ruleSymbols[ruleCount * MOST_SYMBOLS + k]) {
                    return false;
                }
            }
            return true;
        }

        int kindOf(int rule) {
            return hasRule(rule) ? ruleKinds[rule] : NONE;
        }

        int lengthOf(int rule) {
            if (rule == ruleCount) {
                return 1;
            }
            return rule >= 0 && rule < ruleCount && rule < MOST_RULES ? ruleLengths[rule] : 0;
        }

        int symbolAt(int rule, int k) {
            if (k < 0 || k >= lengthOf(rule) || k >= MOST_SYMBOLS) {
                return NOTHING;
            }
            if (rule == ruleCount) {
                return FIRST_KIND + startKind;
            }
            return rule >= 0 && rule < MOST_RULES ? ruleSymbols[rule * MOST_SYMBOLS + k] : NOTHING;
        }

        int itemAtEnd(int rule) {
            return rule * DOTS + lengthOf(rule);
        }

        int rankOf(int rule) {
            for (int k = lengthOf(rule) - 1; k >= 0; k--) {
                int symbol = symbolAt(rule, k);
                if (hasToken(symbol)) {
                    return ranks[symbol];
                }
            }
            return 0;
        }

        int rankOfToken(int token) {
            return hasToken(token) ? ranks[token] : 0;
        }

        int sideOfToken(int token) {
            return hasToken(token) ? sides[token] : LEFT;
        }

        int rulesOf(int kind) {
            int sum = 0;
            for (int rule = 0; rule < ruleCount; rule++) {
                if (kindOf(rule) == kind) {
                    sum++;
                }
            }
            return sum;
        }

        boolean isEmpty(int kind) {
            return kind >= 0 && kind < MOST_KINDS && (empties >>> kind & 1) != 0;
        }

        int followOf(int kind) {
            return hasKind(kind) ? follows[kind] : 0;
        }

        /** Whether all of a rule from its k-th symbol on is empty. */
        boolean isEmptyFrom(int rule, int k) {
            for (int at = k; at < lengthOf(rule); at++) {
                if (!isEmpty(symbolAt(rule, at) - FIRST_KIND)) {
                    return false;
                }
            }
            return true;
        }

        int firstFrom(int rule, int k) {
            int set = 0;
            for (int at = k; at < lengthOf(rule); at++) {
                int symbol = symbolAt(rule, at);
                if (hasToken(symbol)) {
                    return set | 1 << symbol;
                }
                int kind = symbol - FIRST_KIND;
                if (!hasKind(kind)) {
                    return set;
                }
                set |= firsts[kind];
                if (!isEmpty(kind)) {
                    return set;
                }
            }
            return set;
        }

        void settleEmpties() {
            empties = 0;
            boolean grown = true;
            for (int round = 0; grown && round < MOST_ROUNDS; round++) {
                int before = empties;
                for (int rule = 0; rule < ruleCount; rule++) {
                    if (uses(rule) && isEmptyFrom(rule, 0)) {
                        empties |= 1 << kindOf(rule);
                    }
                }
                grown = empties != before;
            }
        }

        void settleFirsts() {
            Arrays.fill(firsts, 0);
            boolean grown = true;
            for (int round = 0; grown && round < MOST_ROUNDS; round++) {
                grown = false;
                for (int rule = 0; rule < ruleCount; rule++) {
                    if (uses(rule) && widen(firsts, kindOf(rule), firstFrom(rule, 0))) {
                        grown = true;
                    }
                }
            }
        }

        void settleFollows() {
            Arrays.fill(follows, 0);
            widen(follows, startKind, 1 << tokenCount);
            boolean grown = true;
            for (int round = 0; grown && round < MOST_ROUNDS; round++) {
                grown = false;
                for (int rule = 0; rule < ruleCount; rule++) {
                    if (uses(rule) && widenFollowsBy(rule)) {
                        grown = true;
                    }
                }
            }
        }

        private boolean widenFollowsBy(int rule) {
            boolean grown = false;
            for (int k = 0; k < lengthOf(rule); k++) {
                int set = firstFrom(rule, k + 1);
                if (isEmptyFrom(rule, k + 1)) {
                    set |= followOf(kindOf(rule));
                }
                if (widen(follows, symbolAt(rule, k) - FIRST_KIND, set)) {
                    grown = true;
                }
            }
            return grown;
        }

        private boolean widen(int[] sets, int kind, int set) {
            if (!hasKind(kind) || kind >= sets.length || (sets[kind] | set) == sets[kind]) {
                return false;
            }
            sets[kind] |= set;
            return true;
        }
    }

    /** Writes the lines of a text into a grammar, up to the first fault. */
    private static final class TextParser {
        static final int NOT_HERE = 1;
        static final int TOO_MUCH = 2;
        static final int TOLD_ALREADY = 3;
        static final int NOT_TOLD = 4;
        static final int SAME_RULE = 5;

        private static final int WORD = 0;
        private static final int NUMBER = 1;
        private static final int LINE_END = 2;
        private static final int TEXT_END = 3;
        private static final int OTHER = 4;

        private static final int LETTERS = 6;
        private static final int LETTER_BITS = 5;
        private static final int TOKEN_WORD = 20 << 25 | 15 << 20 | 11 << 15 | 5 << 10 | 14 << 5;
        private static final int KIND_WORD = 11 << 25 | 9 << 20 | 14 << 15 | 4 << 10;
        private static final int RULE_WORD = 18 << 25 | 21 << 20 | 12 << 15 | 5 << 10;
        private static final int RANK_WORD = 18 << 25 | 1 << 20 | 14 << 15 | 11 << 10;
        private static final int GREATEST_NUMBER = 1000;

        int faultNumber;
        int faultPlace = NONE;
        private final int[] bytes = new int[TAPE_LENGTH];
        private int length;
        private int place;
        private int sort;
        private int start;
        private int letters;
        private int value;

        void blame(int number, int at) {
            faultNumber = number;
            faultPlace = at;
        }

        /** For the lines' methods, which answer false behind a fault. */
        private boolean refuse(int number) {
            blame(number, start);
            return false;
        }

        int linesOf(int[] tape, int n, Grammar grammar) {
            length = Math.max(0, Math.min(n, Math.min(tape.length, TAPE_LENGTH)));
            System.arraycopy(tape, 0, bytes, 0, length);
            place = 0;
            blame(0, NONE);
            grammar.forget();
            for (int lines = 0; lines <= TAPE_LENGTH; lines++) {
                advance();
                if (sort == TEXT_END) {
                    return lines;
                }
                if (!takeLine(grammar)) {
                    return NONE;
                }
            }
            return NONE;
        }

        private boolean takeLine(Grammar grammar) {
            if (sort != WORD) {
                return refuse(NOT_HERE);
            }
            switch (letters) {
                case TOKEN_WORD:
                    return takeToken(grammar);
                case KIND_WORD:
                    return takeKind(grammar);
                case RULE_WORD:
                    return takeRule(grammar);
                case RANK_WORD:
                    return takeRank(grammar);
                default:
                    return refuse(NOT_HERE);
            }
        }

        private boolean takeToken(Grammar grammar) {
            if (grammar.tokenCount >= MOST_TOKENS) {
                return refuse(TOO_MUCH);
            }
            advance();
            if (!isNewName(grammar)) {
                return false;
            }
            grammar.addToken(letters);
            return takeLineEnd();
        }

        private boolean takeKind(Grammar grammar) {
            if (grammar.kindCount >= MOST_KINDS) {
                return refuse(TOO_MUCH);
            }
            advance();
            if (!isNewName(grammar)) {
                return false;
            }
            grammar.addKind(letters);
            return takeLineEnd();
        }

        private boolean isNewName(Grammar grammar) {
            if (!isName()) {
                return refuse(NOT_HERE);
            }
            return grammar.symbolNamed(letters) == NONE || refuse(TOLD_ALREADY);
        }

        private boolean takeRule(Grammar grammar) {
            if (grammar.ruleCount >= MOST_RULES) {
                return refuse(TOO_MUCH);
            }
            if (!takeName()) {
                return false;
            }
            int kind = grammar.symbolNamed(letters) - FIRST_KIND;
            if (!grammar.hasKind(kind)) {
                return refuse(NOT_TOLD);
            }
            grammar.beginRule(kind);
            for (int k = 0; k <= MOST_SYMBOLS; k++) {
                advance();
                if (sort == LINE_END) {
                    return grammar.addRule() || refuse(SAME_RULE);
                }
                if (!takeSymbol(grammar)) {
                    return false;
                }
            }
            return refuse(TOO_MUCH);
        }

        private boolean takeSymbol(Grammar grammar) {
            if (!isName()) {
                return refuse(NOT_HERE);
            }
            if (grammar.ruleIsFull()) {
                return refuse(TOO_MUCH);
            }
            int symbol = grammar.symbolNamed(letters);
            if (symbol == NONE) {
                return refuse(NOT_TOLD);
            }
            return grammar.addSymbol(symbol);
        }

        private boolean takeRank(Grammar grammar) {
            if (!takeName()) {
                return false;
            }
            int token = grammar.symbolNamed(letters);
            if (!grammar.hasToken(token)) {
                return refuse(NOT_TOLD);
            }
            if (grammar.rankOfToken(token) != 0) {
                return refuse(TOLD_ALREADY);
            }
            if (!takeNumber(1, GREATEST_RANK)) {
                return false;
            }
            grammar.ranks[token] = value;
            if (!takeNumber(0, GREATEST_SIDE)) {
                return false;
            }
            grammar.sides[token] = value;
            return takeLineEnd();
        }

        private boolean takeName() {
            advance();
            return isName() || refuse(NOT_HERE);
        }

        private boolean takeNumber(int least, int most) {
            advance();
            if (sort != NUMBER) {
                return refuse(NOT_HERE);
            }
            return value >= least && value <= most || refuse(TOO_MUCH);
        }

        private boolean takeLineEnd() {
            advance();
            return sort == LINE_END || refuse(NOT_HERE);
        }

        private boolean isName() {
            return sort == WORD && letters != TOKEN_WORD && letters != KIND_WORD
                && letters != RULE_WORD && letters != RANK_WORD;
        }

        private void advance() {
            while (place < length && isBlank(signAt(place))) {
                place++;
            }
            start = place;
            int sign = signAt(place);
            if (sign == NONE) {
                sort = TEXT_END;
            } else if (isLetter(sign)) {
                passWord();
            } else if (isDigit(sign)) {
                passNumber();
            } else {
                sort = sign == ';' ? LINE_END : OTHER;
                place++;
            }
        }

        private void passWord() {
            letters = 0;
            while (place < length && isLetter(signAt(place))) {
                int k = place - start;
                if (k < LETTERS) {
                    letters |= signAt(place) - 'a' + 1 << (LETTERS - 1 - k) * LETTER_BITS;
                }
                place++;
            }
            sort = place - start > LETTERS ? OTHER : WORD;
        }

        private void passNumber() {
            value = 0;
            while (place < length && isDigit(signAt(place))) {
                // a long number must not wrap round to a small one
                value = Math.min(GREATEST_NUMBER, value * 10 + signAt(place) - '0');
                place++;
            }
            sort = NUMBER;
        }

        private int signAt(int at) {
            return at >= 0 && at < length && at < TAPE_LENGTH ? bytes[at] : NONE;
        }

        private static boolean isBlank(int sign) {
            return sign == 10 || sign == 32;
        }

        private static boolean isLetter(int sign) {
            return sign >= 'a' && sign <= 'z';
        }

        private static boolean isDigit(int sign) {
            return sign >= '0' && sign <= '9';
        }
    }

    /** The states of a grammar, their moves and what can stand behind each of their items. */
    private static final class States {
        int count;
        final long[] kernels = new long[MOST_STATES];
        final long[] closures = new long[MOST_STATES];
        final int[] entries = new int[MOST_STATES];
        private final int[] moves = new int[MOST_STATES * SYMBOL_NUMBERS];
        private final int[] behinds = new int[MOST_STATES * ITEMS];

        private int itemsToLookAt;
        /** Of each symbol the items that have it behind their dot. */
        private final long[] itemsAhead = new long[SYMBOL_NUMBERS];
        /** Of each kind the items of its rules with dot 0. */
        private final long[] itemsOfKind = new long[MOST_KINDS];
        private final int[] symbolBehindDot = new int[ITEMS];
        private final int[] firstBehindThat = new int[ITEMS];
        private long emptyBehindThat;

        boolean has(int state) {
            return state >= 0 && state < count && state < MOST_STATES;
        }

        boolean hasItem(int state, int item) {
            return has(state) && inBits(closures[state], item);
        }

        int moveBy(int state, int symbol) {
            if (!has(state) || symbol < 0 || symbol >= SYMBOL_NUMBERS) {
                return NOTHING;
            }
            return moves[state * SYMBOL_NUMBERS + symbol];
        }

        int behind(int state, int item) {
            return has(state) && item >= 0 && item < ITEMS ? behinds[state * ITEMS + item] : 0;
        }

        int kernelItem(int state, int k) {
            int left = k;
            for (int item = 0; item < ITEMS; item++) {
                if (has(state) && inBits(kernels[state], item)) {
                    if (left == 0) {
                        return item / DOTS * 10 + item % DOTS;
                    }
                    left--;
                }
            }
            return NOTHING;
        }

        int itemsInAll() {
            int sum = 0;
            for (int state = 0; state < count && state < MOST_STATES; state++) {
                sum += Long.bitCount(closures[state]);
            }
            return sum;
        }

        int movesInAll() {
            int sum = 0;
            for (int state = 0; state < count; state++) {
                for (int symbol = 0; symbol < SYMBOL_NUMBERS; symbol++) {
                    if (moveBy(state, symbol) >= 0) {
                        sum++;
                    }
                }
            }
            return sum;
        }

        /** Whether all states of the items prepared have room; behind a no what is here is of no use. */
        boolean make(Grammar grammar) {
            count = 0;
            if (!grammar.hasKind(grammar.startKind)) {
                return true;
            }
            numberOf(1L << grammar.ruleCount * DOTS, NOTHING);
            for (int state = 0; state < count && state < MOST_STATES; state++) {
                for (int symbol = 0; symbol < SYMBOL_NUMBERS; symbol++) {
                    long kernel = (closures[state] & itemsAhead[symbol]) << 1;
                    int target = kernel == 0 ? NOTHING : numberOf(kernel, symbol);
                    if (target == NONE) {
                        return false;
                    }
                    moves[state * SYMBOL_NUMBERS + symbol] = target;
                }
            }
            return true;
        }

        void prepareItems(Grammar grammar) {
            Arrays.fill(itemsAhead, 0L);
            Arrays.fill(itemsOfKind, 0L);
            Arrays.fill(symbolBehindDot, NOTHING);
            emptyBehindThat = 0L;
            itemsToLookAt = Math.min(ITEMS, grammar.ruleCount * DOTS + 2);
            for (int rule = 0; rule <= grammar.ruleCount; rule++) {
                if (grammar.uses(rule)) {
                    prepareRule(grammar, rule);
                }
            }
        }

        private void prepareRule(Grammar grammar, int rule) {
            int kind = grammar.kindOf(rule);
            if (grammar.hasKind(kind)) {
                itemsOfKind[kind] |= 1L << rule * DOTS;
            }
            for (int dot = 0; dot < grammar.lengthOf(rule); dot++) {
                int item = rule * DOTS + dot;
                int symbol = grammar.symbolAt(rule, dot);
                if (item < ITEMS && symbol >= 0 && symbol < SYMBOL_NUMBERS) {
                    itemsAhead[symbol] |= 1L << item;
                    symbolBehindDot[item] = symbol;
                    firstBehindThat[item] = grammar.firstFrom(rule, dot + 1);
                    if (grammar.isEmptyFrom(rule, dot + 1)) {
                        emptyBehindThat |= 1L << item;
                    }
                }
            }
        }

        /** The number of the state with that kernel, which is made if there is none; NONE: there is no room. */
        private int numberOf(long kernel, int symbol) {
            for (int state = 0; state < count; state++) {
                if (kernels[state] == kernel) {
                    return state;
                }
            }
            if (count >= MOST_STATES) {
                return NONE;
            }
            kernels[count] = kernel;
            closures[count] = closed(kernel);
            entries[count] = symbol;
            count++;
            return count - 1;
        }

        private long closed(long kernel) {
            long set = kernel;
            for (int round = 0; round < MOST_KINDS; round++) {
                for (int kind = 0; kind < MOST_KINDS; kind++) {
                    if ((set & itemsAhead[FIRST_KIND + kind]) != 0) {
                        set |= itemsOfKind[kind];
                    }
                }
            }
            return set;
        }

        /** Makes the least sets behind the items, from END behind the first item on. */
        void spread(int startItem, int end) {
            Arrays.fill(behinds, 0);
            widen(0, startItem, end);
            boolean grown = true;
            for (int round = 0; grown && round < MOST_ROUNDS; round++) {
                grown = false;
                for (int state = 0; state < count; state++) {
                    if (spreadIn(state)) {
                        grown = true;
                    }
                }
            }
        }

        private boolean spreadIn(int state) {
            boolean grown = false;
            for (int item = 0; item < itemsToLookAt; item++) {
                if (inBits(closures[state], item) && symbolBehindDot[item] >= 0 && spreadFrom(state, item)) {
                    grown = true;
                }
            }
            return grown;
        }

        private boolean spreadFrom(int state, int item) {
            int symbol = symbolBehindDot[item];
            int set = behind(state, item);
            boolean grown = widen(moveBy(state, symbol), item + 1, set);
            int kind = symbol - FIRST_KIND;
            if (kind < 0 || kind >= MOST_KINDS) {
                return grown;
            }
            int ahead = inBits(emptyBehindThat, item) ? firstBehindThat[item] | set : firstBehindThat[item];
            for (int first = 0; first < itemsToLookAt; first += DOTS) {
                if (inBits(itemsOfKind[kind], first) && widen(state, first, ahead)) {
                    grown = true;
                }
            }
            return grown;
        }

        private boolean widen(int state, int item, int set) {
            if (!has(state) || item < 0 || item >= ITEMS) {
                return false;
            }
            int at = state * ITEMS + item;
            if ((behinds[at] | set) == behinds[at]) {
                return false;
            }
            behinds[at] |= set;
            return true;
        }
    }

    /** A grammar with its states, its actions and the rules that conflicts leave out. */
    private static final class Tables {
        final Grammar grammar = new Grammar();
        final States states = new States();
        private final int[] actions = new int[MOST_STATES * MOST_TERMINALS];
        /** Of each state and terminal the rules left out (bits). */
        private final int[] leftOuts = new int[MOST_STATES * MOST_TERMINALS];

        /** Whether there is room for all states of the grammar. */
        boolean make(boolean byFollow) {
            grammar.settleEmpties();
            grammar.settleFirsts();
            grammar.settleFollows();
            Arrays.fill(actions, 0);
            Arrays.fill(leftOuts, 0);
            states.prepareItems(grammar);
            if (!states.make(grammar)) {
                return false;
            }
            states.spread(grammar.ruleCount * DOTS, 1 << grammar.tokenCount);
            for (int state = 0; state < states.count; state++) {
                gatherReduces(state, byFollow);
                for (int terminal = 0; terminal <= grammar.tokenCount; terminal++) {
                    decide(state, terminal);
                }
            }
            return true;
        }

        /** Until it is decided which rule goes, all rules that could are among those left out. */
        private void gatherReduces(int state, boolean byFollow) {
            for (int rule = 0; rule < grammar.ruleCount; rule++) {
                int item = grammar.itemAtEnd(rule);
                if (states.hasItem(state, item)) {
                    int look = byFollow ? grammar.followOf(grammar.kindOf(rule)) : states.behind(state, item);
                    for (int terminal = 0; terminal <= grammar.tokenCount; terminal++) {
                        if (inBits(look, terminal)) {
                            leftOuts[state * MOST_TERMINALS + terminal] |= 1 << rule;
                        }
                    }
                }
            }
        }

        private void decide(int state, int terminal) {
            int cell = state * MOST_TERMINALS + terminal;
            boolean isEnd = terminal == grammar.tokenCount;
            if (isEnd && states.hasItem(state, grammar.itemAtEnd(grammar.ruleCount))) {
                actions[cell] = ACCEPT;
                return;
            }
            int target = isEnd ? NOTHING : states.moveBy(state, terminal);
            int rules = leftOuts[cell];
            if (rules == 0) {
                actions[cell] = target >= 0 ? SHIFT + target : 0;
                return;
            }
            int rule = leastOf(rules);
            int ruleRank = grammar.rankOf(rule);
            int tokenRank = grammar.rankOfToken(terminal);
            if (target >= 0 && (ruleRank == 0 || tokenRank == 0)) {
                actions[cell] = SHIFT + target;
                return;
            }
            leftOuts[cell] = rules & rules - 1;
            if (target < 0 || ruleRank > tokenRank) {
                actions[cell] = REDUCE + rule;
            } else if (ruleRank < tokenRank) {
                actions[cell] = SHIFT + target;
            } else {
                actions[cell] = actionBySide(grammar.sideOfToken(terminal), target, rule);
            }
        }

        private static int actionBySide(int side, int target, int rule) {
            if (side == LEFT) {
                return REDUCE + rule;
            }
            return side == RIGHT ? SHIFT + target : 0;
        }

        private static int leastOf(int rules) {
            return Integer.bitCount((rules & -rules) - 1);
        }

        int actionFor(int state, int terminal) {
            if (!states.has(state) || terminal < 0 || terminal >= MOST_TERMINALS) {
                return 0;
            }
            return actions[state * MOST_TERMINALS + terminal];
        }

        int actionsIn(int state) {
            int sum = 0;
            for (int terminal = 0; terminal < MOST_TERMINALS; terminal++) {
                if (actionFor(state, terminal) != 0) {
                    sum++;
                }
            }
            return sum;
        }

        int actionsInAll() {
            int sum = 0;
            for (int state = 0; state < states.count; state++) {
                sum += actionsIn(state);
            }
            return sum;
        }

        int conflictCount() {
            int sum = 0;
            for (int cell = 0; cell < states.count * MOST_TERMINALS && cell < leftOuts.length; cell++) {
                sum += Integer.bitCount(leftOuts[cell]);
            }
            return sum;
        }

        /** Where that conflict is: its state times eight and its terminal; NONE: there is none such. */
        int cellOfConflict(int conflict) {
            if (conflict < 0) {
                return NONE;
            }
            int sum = 0;
            for (int cell = 0; cell < states.count * MOST_TERMINALS && cell < leftOuts.length; cell++) {
                sum += Integer.bitCount(leftOuts[cell]);
                if (conflict < sum) {
                    return cell;
                }
            }
            return NONE;
        }

        int ruleOfConflict(int conflict, int cell) {
            int left = conflict;
            for (int ahead = 0; ahead < cell && ahead < leftOuts.length; ahead++) {
                left -= Integer.bitCount(leftOuts[ahead]);
            }
            for (int rule = 0; rule < grammar.ruleCount; rule++) {
                if (cell >= 0 && cell < leftOuts.length && inBits(leftOuts[cell], rule)) {
                    if (left == 0) {
                        return rule;
                    }
                    left--;
                }
            }
            return NONE;
        }
    }

    /** How the moves by kinds read and include one another. */
    private static final class Relations {
        private static final int WORDS = (MOST_MOVES + 63) / 64;

        int moveCount;
        int readPairs;
        int includePairs;
        int lookbacks;
        private final int[] moveStates = new int[MOST_MOVES];
        private final int[] moveKinds = new int[MOST_MOVES];
        private final int[] numbers = new int[MOST_STATES * MOST_KINDS];
        private final int[] afters = new int[MOST_MOVES];
        private final long[] includes = new long[MOST_MOVES * WORDS];
        private final long[] reached = new long[MOST_MOVES * WORDS];

        void make(Tables tables) {
            moveCount = 0;
            readPairs = 0;
            includePairs = 0;
            lookbacks = 0;
            Arrays.fill(numbers, NONE);
            Arrays.fill(includes, 0L);
            numberMoves(tables);
            for (int move = 0; move < moveCount; move++) {
                relate(tables, move);
            }
            settleAfters(tables);
        }

        private void numberMoves(Tables tables) {
            for (int state = 0; state < tables.states.count; state++) {
                for (int kind = 0; kind < MOST_KINDS; kind++) {
                    if (tables.states.moveBy(state, FIRST_KIND + kind) >= 0 && moveCount < MOST_MOVES) {
                        numbers[state * MOST_KINDS + kind] = moveCount;
                        moveStates[moveCount] = state;
                        moveKinds[moveCount] = kind;
                        moveCount++;
                    }
                }
            }
        }

        private int numberOf(int state, int kind) {
            if (state < 0 || state >= MOST_STATES || kind < 0 || kind >= MOST_KINDS) {
                return NONE;
            }
            return numbers[state * MOST_KINDS + kind];
        }

        /** Counts what a move reads and what it is looked back to from; tells which moves include it. */
        private void relate(Tables tables, int move) {
            int target = tables.states.moveBy(moveStates[move], FIRST_KIND + moveKinds[move]);
            for (int kind = 0; kind < MOST_KINDS; kind++) {
                if (tables.grammar.isEmpty(kind) && numberOf(target, kind) >= 0) {
                    readPairs++;
                }
            }
            for (int rule = 0; rule < tables.grammar.ruleCount; rule++) {
                if (tables.grammar.kindOf(rule) == moveKinds[move]) {
                    walk(tables, move, rule);
                }
            }
        }

        private void walk(Tables tables, int move, int rule) {
            int state = moveStates[move];
            for (int k = 0; k < tables.grammar.lengthOf(rule); k++) {
                int symbol = tables.grammar.symbolAt(rule, k);
                if (symbol >= FIRST_KIND && tables.grammar.isEmptyFrom(rule, k + 1)) {
                    include(numberOf(state, symbol - FIRST_KIND), move);
                }
                state = tables.states.moveBy(state, symbol);
            }
            if (state >= 0) {
                lookbacks++;
            }
        }

        private void include(int from, int to) {
            if (from >= 0 && from < MOST_MOVES && !inRow(includes, from, to)) {
                includes[from * WORDS + to / 64] |= 1L << to % 64;
                includePairs++;
            }
        }

        private static boolean inRow(long[] pairs, int from, int to) {
            int at = from * WORDS + to / 64;
            return at >= 0 && at < pairs.length && inBits(pairs[at], to % 64);
        }

        private void settleAfters(Tables tables) {
            for (int move = 0; move < moveCount; move++) {
                afters[move] = tokensFrom(tables, move);
            }
            int first = numberOf(0, tables.grammar.startKind);
            if (first >= 0 && first < MOST_MOVES) {
                afters[first] |= 1 << tables.grammar.tokenCount;
            }
            boolean grown = true;
            for (int round = 0; grown && round < MOST_ROUNDS; round++) {
                grown = false;
                for (int move = 0; move < moveCount; move++) {
                    int set = afters[move] | aftersRead(tables, move) | aftersIncluded(move);
                    grown = grown || set != afters[move];
                    afters[move] = set;
                }
            }
        }

        private int tokensFrom(Tables tables, int move) {
            int target = tables.states.moveBy(moveStates[move], FIRST_KIND + moveKinds[move]);
            int set = 0;
            for (int token = 0; token < tables.grammar.tokenCount; token++) {
                if (tables.states.moveBy(target, token) >= 0) {
                    set |= 1 << token;
                }
            }
            return set;
        }

        private int aftersRead(Tables tables, int move) {
            int target = tables.states.moveBy(moveStates[move], FIRST_KIND + moveKinds[move]);
            int set = 0;
            for (int kind = 0; kind < MOST_KINDS; kind++) {
                int other = numberOf(target, kind);
                if (other >= 0 && other < MOST_MOVES && tables.grammar.isEmpty(kind)) {
                    set |= afters[other];
                }
            }
            return set;
        }

        private int aftersIncluded(int move) {
            int set = 0;
            for (int other = 0; other < moveCount; other++) {
                if (inRow(includes, move, other)) {
                    set |= afters[other];
                }
            }
            return set;
        }

        int afterMove(int state, int kind) {
            int move = numberOf(state, kind);
            return move >= 0 && move < moveCount ? afters[move] : NOTHING;
        }

        int rings() {
            reachBySteps();
            int sum = 0;
            for (int move = 0; move < moveCount; move++) {
                if (leadsRing(move)) {
                    sum++;
                }
            }
            return sum;
        }

        private void reachBySteps() {
            System.arraycopy(includes, 0, reached, 0, MOST_MOVES * WORDS);
            for (int over = 0; over < moveCount; over++) {
                for (int from = 0; from < moveCount; from++) {
                    if (inRow(reached, from, over)) {
                        for (int word = 0; word < WORDS; word++) {
                            reached[from * WORDS + word] |= reached[over * WORDS + word];
                        }
                    }
                }
            }
        }

        /** A ring is counted at the first move of it. */
        private boolean leadsRing(int move) {
            boolean ring = false;
            for (int other = 0; other < moveCount; other++) {
                if (other != move && inRow(reached, move, other) && inRow(reached, other, move)) {
                    if (other < move) {
                        return false;
                    }
                    ring = true;
                }
            }
            return ring;
        }
    }

    /** The shortest rows of tokens of kinds and to states. */
    private static final class ShortestRows {
        final int[] kindLengths = new int[MOST_KINDS];
        final int[] stateLengths = new int[MOST_STATES];
        private final int[] kindRows = new int[MOST_KINDS * LONGEST_OF_KIND];
        private final int[] stateRows = new int[MOST_STATES * LONGEST_TO_STATE];
        private final int[] trial = new int[LONGEST_TO_STATE];
        private int trialLength;

        void make(Tables tables) {
            Arrays.fill(kindLengths, NOTHING);
            Arrays.fill(stateLengths, NOTHING);
            settleKinds(tables.grammar);
            if (tables.states.has(0)) {
                stateLengths[0] = 0;
                settleStates(tables.states);
            }
        }

        private void settleKinds(Grammar grammar) {
            boolean better = true;
            for (int round = 0; better && round < MOST_ROUNDS; round++) {
                better = false;
                for (int rule = 0; rule < grammar.ruleCount; rule++) {
                    int kind = grammar.kindOf(rule);
                    if (kind >= 0 && kind < MOST_KINDS && tryRule(grammar, rule)
                        && improves(kindRows, kind * LONGEST_OF_KIND, kindLengths[kind])) {
                        System.arraycopy(trial, 0, kindRows, kind * LONGEST_OF_KIND, LONGEST_OF_KIND);
                        kindLengths[kind] = trialLength;
                        better = true;
                    }
                }
            }
        }

        private boolean tryRule(Grammar grammar, int rule) {
            trialLength = 0;
            for (int k = 0; k < grammar.lengthOf(rule); k++) {
                if (!lengthen(grammar.symbolAt(rule, k), LONGEST_OF_KIND)) {
                    return false;
                }
            }
            return true;
        }

        private void settleStates(States states) {
            boolean better = true;
            for (int round = 0; better && round < MOST_ROUNDS; round++) {
                better = false;
                for (int state = 0; state < states.count; state++) {
                    for (int symbol = 0; symbol < SYMBOL_NUMBERS && stateLengths[state] >= 0; symbol++) {
                        if (improveBy(states, state, symbol)) {
                            better = true;
                        }
                    }
                }
            }
        }

        private boolean improveBy(States states, int state, int symbol) {
            int target = states.moveBy(state, symbol);
            if (!states.has(target)) {
                return false;
            }
            System.arraycopy(stateRows, state * LONGEST_TO_STATE, trial, 0, LONGEST_TO_STATE);
            trialLength = stateLengths[state];
            if (!lengthen(symbol, LONGEST_TO_STATE)
                || !improves(stateRows, target * LONGEST_TO_STATE, stateLengths[target])) {
                return false;
            }
            System.arraycopy(trial, 0, stateRows, target * LONGEST_TO_STATE, LONGEST_TO_STATE);
            stateLengths[target] = trialLength;
            return true;
        }

        /** Whether the row tried has room for what the symbol stands for, which then comes behind it. */
        private boolean lengthen(int symbol, int most) {
            int kind = symbol - FIRST_KIND;
            if (kind >= MOST_KINDS || symbol < 0) {
                return false;
            }
            int more = kind < 0 ? 1 : kindLengths[kind];
            if (more < 0 || trialLength + more > most || trialLength + more > LONGEST_TO_STATE) {
                return false;
            }
            for (int k = 0; k < more; k++) {
                trial[trialLength] = kind < 0 ? symbol : kindRows[kind * LONGEST_OF_KIND + k];
                trialLength++;
            }
            return true;
        }

        private boolean improves(int[] rows, int at, int length) {
            if (length < 0 || trialLength != length) {
                return length < 0 || trialLength < length;
            }
            for (int k = 0; k < length && at + k < rows.length; k++) {
                if (trial[k] != rows[at + k]) {
                    return trial[k] < rows[at + k];
                }
            }
            return false;
        }

        int tokenOfKind(int kind, int k) {
            if (kind < 0 || kind >= MOST_KINDS || k < 0 || k >= kindLengths[kind]) {
                return NOTHING;
            }
            return kindRows[kind * LONGEST_OF_KIND + k];
        }

        int tokenToState(int state, int k) {
            if (state < 0 || state >= MOST_STATES || k < 0 || k >= stateLengths[state]) {
                return NOTHING;
            }
            return stateRows[state * LONGEST_TO_STATE + k];
        }
    }

    /** The actions of all states laid into one long row. */
    private static final class Packing {
        int used;
        final int[] offsets = new int[MOST_STATES];
        private final int[] placeActions = new int[PLACES];
        private final int[] placeStates = new int[PLACES];

        void make(Tables tables) {
            used = 0;
            Arrays.fill(offsets, 0);
            Arrays.fill(placeActions, 0);
            for (int actions = MOST_TERMINALS; actions > 0; actions--) {
                for (int state = 0; state < tables.states.count; state++) {
                    if (tables.actionsIn(state) == actions) {
                        lay(tables, state);
                    }
                }
            }
        }

        private void lay(Tables tables, int state) {
            for (int offset = 0; offset + MOST_TERMINALS <= PLACES; offset++) {
                if (hasRoom(tables, state, offset)) {
                    layAt(tables, state, offset);
                    return;
                }
            }
        }

        private boolean hasRoom(Tables tables, int state, int offset) {
            for (int terminal = 0; terminal < MOST_TERMINALS; terminal++) {
                if (tables.actionFor(state, terminal) != 0 && actionAt(offset + terminal) != NOTHING) {
                    return false;
                }
            }
            return true;
        }

        private void layAt(Tables tables, int state, int offset) {
            offsets[state] = offset;
            for (int terminal = 0; terminal < MOST_TERMINALS; terminal++) {
                int place = offset + terminal;
                int action = tables.actionFor(state, terminal);
                if (action != 0 && place < PLACES) {
                    placeActions[place] = action;
                    placeStates[place] = state;
                    used = Math.max(used, place + 1);
                }
            }
        }

        int actionAt(int place) {
            return place >= 0 && place < PLACES && placeActions[place] != 0 ? placeActions[place] : NOTHING;
        }

        int stateAt(int place) {
            return place >= 0 && place < PLACES && placeActions[place] != 0 ? placeStates[place] : NOTHING;
        }
    }

    /** A row of states that reads terminals. */
    private static final class Row {
        /** Where a copy goes that reads on; null at the end of the chain. */
        final Row next;
        final int[] states = new int[MOST_IN_ROW];
        int size;
        int reduces;
        int tokens;

        Row(Row next) {
            this.next = next;
        }

        void copy(Row other) {
            System.arraycopy(other.states, 0, states, 0, MOST_IN_ROW);
            size = other.size;
            reduces = other.reduces;
            tokens = other.tokens;
        }

        void begin(Tables tables) {
            size = 0;
            reduces = 0;
            tokens = 0;
            if (tables.states.count > 0) {
                add(0);
            }
        }

        int stateBehindLast(int k) {
            return k >= 0 && k < size && size <= MOST_IN_ROW ? states[size - 1 - k] : NOTHING;
        }

        /** How many reduces; NOTHING: the terminal is wrong, and the row is of no use any more. */
        int take(Tables tables, int terminal) {
            for (int done = 0; done <= MOST_REDUCES; done++) {
                int action = tables.actionFor(stateBehindLast(0), terminal);
                if (action == ACCEPT) {
                    return done;
                }
                if (action < REDUCE) {
                    if (action < SHIFT || !add(action - SHIFT)) {
                        return NOTHING;
                    }
                    tokens++;
                    return done;
                }
                if (!reduceBy(tables, action - REDUCE)) {
                    return NOTHING;
                }
                reduces++;
            }
            return NOTHING;
        }

        private boolean reduceBy(Tables tables, int rule) {
            int length = tables.grammar.lengthOf(rule);
            if (length >= size) {
                return false;
            }
            size -= length;
            int target = tables.states.moveBy(stateBehindLast(0), FIRST_KIND + tables.grammar.kindOf(rule));
            return target >= 0 && add(target);
        }

        private boolean add(int state) {
            if (size < 0 || size >= MOST_IN_ROW) {
                return false;
            }
            states[size] = state;
            size++;
            return true;
        }
    }

    /** What was read ahead of each of the latest tokens, in a ring. */
    private static final class Past {
        int count;
        private int latest;
        private final int[] states = new int[MOST_UNDONE * MOST_IN_ROW];
        private final int[] sizes = new int[MOST_UNDONE];
        private final int[] reduces = new int[MOST_UNDONE];
        private final int[] tokens = new int[MOST_UNDONE];

        void forget() {
            count = 0;
        }

        void add(Row row) {
            latest = latest + 1 < MOST_UNDONE ? latest + 1 : 0;
            count = Math.min(MOST_UNDONE, count + 1);
            System.arraycopy(row.states, 0, states, latest * MOST_IN_ROW, MOST_IN_ROW);
            sizes[latest] = row.size;
            reduces[latest] = row.reduces;
            tokens[latest] = row.tokens;
        }

        int takeBack(Row row) {
            if (count == 0) {
                return NONE;
            }
            System.arraycopy(states, latest * MOST_IN_ROW, row.states, 0, MOST_IN_ROW);
            row.size = sizes[latest];
            row.reduces = reduces[latest];
            row.tokens = tokens[latest];
            latest = latest > 0 ? latest - 1 : MOST_UNDONE - 1;
            count--;
            return count;
        }
    }

    /** Notes and strikes, and by how many of them one knows. */
    private static final class Notes {
        int count;
        private int limit = NONE;
        /** Of a note the place of its row; of a strike NONE. */
        final int[] places = new int[MOST_NOTES];
        final boolean[] sentences = new boolean[MOST_NOTES];
        private final int[] struck = new int[MOST_NOTES];

        void forget() {
            count = 0;
            limit = NONE;
        }

        int addNote(int place, boolean sentence) {
            if (count >= MOST_NOTES) {
                return NONE;
            }
            places[count] = place;
            sentences[count] = sentence;
            struck[count] = NONE;
            count++;
            return count - 1;
        }

        int addStrike(int entry) {
            if (entry < 0 || entry >= count || count >= MOST_NOTES) {
                return NONE;
            }
            places[count] = NONE;
            struck[count] = entry;
            count++;
            return count - 1;
        }

        boolean limit(int n) {
            if (n < NONE || n > count) {
                return false;
            }
            limit = n;
            return true;
        }

        int knownBy() {
            return limit == NONE ? count : limit;
        }

        /** The known notes (bits): a strike can only be struck by a later one, so the last ones are settled first. */
        int knownNotes() {
            int gone = 0;
            int knowns = 0;
            for (int entry = Math.min(knownBy(), MOST_NOTES) - 1; entry >= 0; entry--) {
                if (!inBits(gone, entry)) {
                    if (places[entry] >= 0) {
                        knowns |= 1 << entry;
                    } else {
                        gone |= 1 << struck[entry];
                    }
                }
            }
            return knowns;
        }
    }

    /** Which short rows are sentences by the tables without each rule. */
    private static final class Trials {
        /** Rows of up to four tokens have a place each, by their lengths, then by their tokens as digits by seven. */
        private static final int ROWS = 2801;
        private static final int[] PLACES_OF_LENGTHS = {0, 1, 8, 57, 400, 2801};

        private boolean learned;
        /** The rules (bits) without which there are tables. */
        private int possible;
        /** Of each row the rules (bits) by the tables without which it is a sentence. */
        private final int[] withouts = new int[ROWS];

        void forget() {
            learned = false;
        }

        /** The place of a row; NONE: there is no such row of these tokens. */
        static int placeOf(int length, int number, int tokens) {
            if (length < 0 || length > MOST_NOTED || number < 0) {
                return NONE;
            }
            int place = PLACES_OF_LENGTHS[length];
            int rest = number;
            int weight = 1;
            for (int k = 0; k < length; k++) {
                if (rest % 10 >= tokens) {
                    return NONE;
                }
                place += rest % 10 * weight;
                rest /= 10;
                weight *= MOST_TOKENS;
            }
            return rest == 0 ? place : NONE;
        }

        /** The number, as notes have it, of the row at a place. */
        static int numberOf(int place, int length) {
            if (length < 0 || length > MOST_NOTED) {
                return NONE;
            }
            int rest = place - PLACES_OF_LENGTHS[length];
            int number = 0;
            int weight = 1;
            for (int k = 0; k < length; k++) {
                number += rest % MOST_TOKENS * weight;
                rest /= MOST_TOKENS;
                weight *= 10;
            }
            return number;
        }

        /** Makes the tables without each rule once for each text, for they are dear. */
        void learn(Grammar grammar, Tables spare, Row ladder) {
            if (learned) {
                return;
            }
            learned = true;
            possible = 0;
            Arrays.fill(withouts, 0);
            for (int rule = 0; rule < grammar.ruleCount; rule++) {
                spare.grammar.copy(grammar);
                spare.grammar.leftOut = rule;
                if (spare.make(false)) {
                    possible |= 1 << rule;
                    ladder.begin(spare);
                    mark(spare, ladder, withouts, 0, 0);
                }
            }
        }

        private static void mark(Tables tables, Row row, int[] marks, int length, int digits) {
            Row next = row.next;
            if (next == null || length < 0 || length > MOST_NOTED) {
                return;
            }
            int place = PLACES_OF_LENGTHS[length] + digits;
            next.copy(row);
            if (next.take(tables, tables.grammar.tokenCount) >= 0 && place >= 0 && place < marks.length) {
                marks[place] |= 1 << tables.grammar.leftOut;
            }
            for (int token = 0; length < MOST_NOTED && token < tables.grammar.tokenCount; token++) {
                next.copy(row);
                if (next.take(tables, token) >= 0) {
                    mark(tables, next, marks, length + 1, digits * MOST_TOKENS + token);
                }
            }
        }

        private int withoutsAt(int place) {
            return place >= 0 && place < ROWS ? withouts[place] : 0;
        }

        int missingBy(Notes notes) {
            int knowns = notes.knownNotes();
            int rules = possible;
            for (int entry = 0; entry < MOST_NOTES; entry++) {
                if (inBits(knowns, entry)) {
                    int without = withoutsAt(notes.places[entry]);
                    rules &= notes.sentences[entry] ? without : ~without;
                }
            }
            return rules;
        }

        int leftAtWorst(int place, int rules) {
            int yes = Integer.bitCount(withoutsAt(place) & rules);
            return Math.max(yes, Integer.bitCount(rules) - yes);
        }

        /** The place of the row of that length that leaves the fewest rules at worst. */
        int bestQuestion(int length, int tokens, int rules) {
            if (length < 1 || length > MOST_ASKED) {
                return NONE;
            }
            int best = PLACES_OF_LENGTHS[length];
            for (int place = best; place < PLACES_OF_LENGTHS[length + 1]; place++) {
                if (placeOf(length, numberOf(place, length), tokens) == place
                    && leftAtWorst(place, rules) < leftAtWorst(best, rules)) {
                    best = place;
                }
            }
            return best;
        }
    }
}
