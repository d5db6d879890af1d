import java.util.ArrayList;
import java.util.List;
import java.util.Random;
import java.util.function.ToIntFunction;

/**
 * Texts that take as much of the room as there is (seven TOKENS, five KINDS, twelve RULES, up to 48 STATES, up to 240
 * MOVES by KINDS): each call with all its numbers, from two below the least to two above the greatest, is answered by the
 * desk and by the oracle.
 */
public final class FullTest {
    private static final int CALLS_AT_ONCE = 460;
    private static final String SYMBOLS = "token a;token b;token c;token d;token e;token f;token g;kind s;kind t;kind u;kind v;kind w;";
    private static final String RANKS = "rank a 1 0;rank b 1 1;rank c 1 2;rank d 2 0;rank e 2 1;rank f 2 2;rank g 9 0;";
    private static final String[] TEXTS = {
        // 240 MOVES by KINDS, as many as there can be
        SYMBOLS + "rule u v t a g;rule v b w t u;rule t a u s w;rule t w w s;rule v s u t a;rule s t w d d;rule t t f t a;"
            + "rule s d v g c;rule u g t t w;rule u c v c u;rule s e t c a;rule w u v w b;",
        SYMBOLS + "rule u g u b f;rule w u g g;rule t u u c v;rule u v s v t;rule t f w e g;rule s d w f w;rule v c s b t;"
            + "rule v b s c f;rule v s t u v;rule s t u g u;rule t e t t w;rule s w s t g;",
        // the last of them INCLUDES others
        SYMBOLS + "rule v g t s s;rule u w w w w;rule w d s g w;rule s v u g a;rule t c s v t;rule t a v f w;rule w u u s c;"
            + "rule u b u u u;rule v w t t s;rule t s t d g;rule w e v g w;rule u t w u;",
        SYMBOLS + "rule w u v;rule t b u t w;rule u w a w a;rule v t t v;rule u g s v v;rule t d u s d;rule u u a u b;"
            + "rule t t f w f;rule v w s w b;rule w s v d v;rule s v w u b;rule v f w f w;" + RANKS,
        // many that READ and INCLUDE one another, in 75 RINGS
        SYMBOLS + "rule s v d u d;rule v d s w w;rule v t w t;rule t v s w t;rule w a w f w;rule u s;rule t b s f u;"
            + "rule v g w s u;rule t w w w w;rule s u u;rule w s s u u;rule s;",
        SYMBOLS + "rule t w s v s;rule s;rule t s v;rule s v s;rule u f u c v;rule t d f u v;rule v t d w a;rule v s;"
            + "rule u a w u f;rule u c f u w;rule w u v v t;rule u t s t v;" + RANKS,
        // 863 CONFLICTS
        SYMBOLS + "rule s b t t v;rule s t t v;rule v u t v v;rule t a u e t;rule s;rule u c u d s;rule u s v t u;rule t;"
            + "rule u f s t g;rule v;rule t v t u;rule u;",
        SYMBOLS + "rule w d u s g;rule s;rule s e s u t;rule t;rule w b t s g;rule t s w w w;rule w;rule s w s t;rule w t w c w;"
            + "rule s a t a t;rule s g s c s;rule t f s v t;" + RANKS,
        // without some RULES there are 49 STATES and more, without others 48
        TableEdgesTest.LESS_IS_MORE,
        "token a;token b;token c;kind s;kind t;kind u;kind v;kind w;rule v b t b t;rule w b c s v;rule v c c c s;rule v a b c;"
            + "rule s v a;rule w b b t b;rule t c t a;rule v w c c b;rule t b b s;rule v b s u s;rule s c s c t;",
        "token a;token b;token c;token d;kind s;kind t;kind u;kind v;rule u b t;rule t b a b s;rule t a b a s;rule u b b u;"
            + "rule u a u;rule t s;rule s a t u t;rule s u b a;",
        // the others: each TOKEN in a row of its own, a SHORTEST of 32 TOKENS, all rows of all TOKENS
        TextTest.grammarOfStates(48),
        SYMBOLS + "rule s t t v v;rule t u u u u;rule u v v v v;rule v a;rule v b;rule w s a;rule w t u;rule w g;rule s t t t;",
        SYMBOLS + "rule s s g;rule s s f;rule s s e;rule s s d;rule s s c;rule s s b;rule s s a;rule s;",
    };

    private static final List<String> NAMES = new ArrayList<>();
    private static final List<ToIntFunction<LalrDesk>> ASKED = new ArrayList<>();
    private static final List<ToIntFunction<Oracle>> DUE = new ArrayList<>();

    public static void main(String[] args) {
        gatherSymbols();
        gatherStates();
        gatherTables();
        gatherReading();
        for (String text : TEXTS) {
            everything(text);
            for (int seed = 1; seed <= 4; seed++) {
                reading(text, new Random(seed));
            }
        }
        Check.end();
    }

    private static void add(String name, ToIntFunction<LalrDesk> asked, ToIntFunction<Oracle> due) {
        NAMES.add(name);
        ASKED.add(asked);
        DUE.add(due);
    }

    /** Both numbers, from two below 0 to two above the most there are. */
    private interface Two {
        int of(int a, int b);
    }

    private interface Pair<T> {
        Two in(T one);
    }

    private static void gather(String name, int most, int others, Pair<LalrDesk> asked, Pair<Oracle> due) {
        for (int first = -2; first <= most + 1; first++) {
            for (int second = -2; second <= others + 1; second++) {
                int a = first;
                int b = second;
                add(name + "(" + a + ", " + b + ")", desk -> asked.in(desk).of(a, b), oracle -> due.in(oracle).of(a, b));
            }
        }
    }

    private static void gatherSymbols() {
        gather("token", 7, 2, desk -> desk::token, oracle -> oracle::token);
        gather("kind", 5, 5, desk -> (a, b) -> Answers.kind(desk, a, b), oracle -> oracle::kind);
        gather("rule", 12, 7, desk -> desk::rule, oracle -> oracle::rule);
        gather("shortest", 5, 41, desk -> desk::shortest, oracle -> oracle::shortest);
        for (int name = 0; name < 32; name++) {
            int letters = name << 25;
            add("named(" + letters + ")", desk -> desk.named(letters), oracle -> oracle.named(letters));
        }
    }

    private static void gatherStates() {
        gather("state", 48, 5, desk -> desk::state, oracle -> oracle::state);
        gather("item", 48, 8, desk -> desk::item, oracle -> oracle::item);
        gather("move", 48, 15, desk -> desk::move, oracle -> oracle::move);
        gather("action", 48, 8, desk -> desk::action, oracle -> oracle::action);
        gather("look", 48, 13, desk -> desk::look, oracle -> oracle::look);
        gather("after", 48, 5, desk -> desk::after, oracle -> oracle::after);
        gather("witness", 48, 61, desk -> desk::witness, oracle -> oracle::witness);
        for (int state = -2; state <= 49; state++) {
            int asked = state;
            add("offset(" + state + ")", desk -> desk.offset(asked), oracle -> oracle.offset(asked));
        }
    }

    private static void gatherTables() {
        gather("conflict", 900, 4, desk -> desk::conflict, oracle -> oracle::conflict);
        gather("packed", 400, 2, desk -> desk::packed, oracle -> oracle::packed);
        gather("tried", 5, 12, desk -> desk::tried, oracle -> oracle::tried);
        add("conflicts", LalrDesk::conflicts, Oracle::conflicts);
        add("packed(999, 1)", desk -> desk.packed(999, 1), oracle -> oracle.packed(999, 1));
        add("packed(1000, 1)", desk -> desk.packed(1000, 1), oracle -> oracle.packed(1000, 1));
        for (int k = -2; k <= 15; k++) {
            int asked = k;
            add("relations(" + k + ")", desk -> desk.relations(asked), oracle -> oracle.relations(asked));
            add("count(" + k + ")", desk -> desk.count(asked), oracle -> oracle.count(asked));
            add("sentences(" + k + ")", desk -> desk.sentences(asked), oracle -> oracle.sentences(asked));
        }
    }

    private static void gatherReading() {
        gather("game", 5, 2, desk -> desk::game, oracle -> oracle::game);
        gather("ask", 4, 2, desk -> desk::ask, oracle -> oracle::ask);
        gather("chance", 9, 10, desk -> desk::chance, oracle -> oracle::chance);
        for (int seed : new int[] {65535, 65536, 1 << 30, 1103515245, Integer.MAX_VALUE - 1, Integer.MAX_VALUE, Integer.MIN_VALUE}) {
            for (int k = 0; k <= 10; k++) {
                int n = k;
                add("chance(" + seed + ", " + n + ")", desk -> desk.chance(seed, n), oracle -> oracle.chance(seed, n));
            }
        }
        add("missing", LalrDesk::missing, Oracle::missing);
        add("whole", LalrDesk::whole, Oracle::whole);
        add("expected", LalrDesk::expected, Oracle::expected);
    }

    private static LalrDesk told(Oracle oracle, String text) {
        StringBuilder all = new StringBuilder(text);
        while (all.length() % 20 != 0) {
            all.append(' ');
        }
        for (int at = 0; at < all.length(); at += 20) {
            int[] numbers = Check.numbers(all, at);
            oracle.feed(numbers[0], numbers[1], numbers[2], numbers[3], numbers[4]);
        }
        Check.due("text of the oracle", oracle.text(text.length()), Check.lines(text));
        return Check.told(text);
    }

    private static void everything(String text) {
        Oracle oracle = new Oracle();
        LalrDesk desk = told(oracle, text);
        for (int k = 0; k < NAMES.size(); k++) {
            if (k % CALLS_AT_ONCE == 0) {
                desk = Check.told(text);
            }
            Check.due(NAMES.get(k) + " of " + text, ASKED.get(k).applyAsInt(desk), DUE.get(k).applyAsInt(oracle));
        }
    }

    /** Rows of TOKENS that are EXPECTED, as long as may be, and back again. */
    private static void reading(String text, Random chance) {
        Oracle oracle = new Oracle();
        LalrDesk desk = told(oracle, text);
        for (int step = 0; step < 44; step++) {
            int expected = oracle.expected();
            Check.due("expected of " + text, desk.expected(), expected);
            int token = chance.nextInt(7);
            for (int k = 0; k < 7 && (expected >> token & 1) == 0; k++) {
                token = (token + 1) % 7;
            }
            Check.due("read(" + token + ") of " + text, desk.read(token), oracle.read(token));
            for (int what : new int[] {7, 8, 9, 13}) {
                Check.due("count(" + what + ") of " + text, desk.count(what), oracle.count(what));
            }
            int deep = chance.nextInt(42) - 1;
            Check.due("stack(" + deep + ") of " + text, desk.stack(deep), oracle.stack(deep));
            Check.due("whole of " + text, desk.whole(), oracle.whole());
            Check.due("game of " + text, desk.game(3, 1), oracle.game(3, 1));
        }
        for (int step = 0; step < 21; step++) {
            Check.due("undo of " + text, desk.undo(), oracle.undo());
            Check.due("stack of " + text, desk.stack(0), oracle.stack(0));
        }
    }
}
