import java.util.NoSuchElementException;

/** Promises 6 to 8 and what Terms 1 and 2 say of them: the boundaries that their sentences name. */
public final class SymbolEdgesTest {
    private static final int INDEX = -101;
    private static final int ELEMENT = -102;
    private static final int[] FAR = {-2, -1000, 16, 100, Integer.MAX_VALUE, Integer.MIN_VALUE};

    /** Seven TOKENS, five KINDS, twelve RULES, all TOKENS with a RANK. */
    private static final String FULL = "token a;token b;token c;token d;token e;token f;token g;"
        + "kind s;kind t;kind u;kind v;kind w;"
        + "rule s a b c d;rule s t u v w;rule t;rule t a;rule u g;rule u t g;rule v e f;rule w g d t;rule w s;rule w g g;"
        + "rule w w w w w;rule w a s g t;"
        + "rank a 1 0;rank b 2 1;rank c 3 2;rank d 9 0;rank e 9 1;rank f 9 2;rank g 5 1;";

    public static void main(String[] args) {
        tokens();
        withoutRank();
        kinds();
        bothWrong();
        kindsThrowAndAllStays();
        rules();
        ranksOfRules();
        noSuchRules();
        emptyByFewerSteps();
        firstOfNothing();
        followOfStart();
        shortestOfNone();
        Check.end();
    }

    private static int kind(LalrDesk desk, int kind, int what) {
        try {
            return desk.kind(kind, what);
        } catch (IndexOutOfBoundsException problem) {
            return INDEX;
        } catch (NoSuchElementException problem) {
            return ELEMENT;
        }
    }

    /** "Of a TOKEN, what 0 RANK (0: none), 1 SIDE (0 without). NONE: no such ones." */
    private static void tokens() {
        LalrDesk desk = Check.told(FULL);
        int[][] due = {{1, 0}, {2, 1}, {3, 2}, {9, 0}, {9, 1}, {9, 2}, {5, 1}};
        for (int token = 0; token < 7; token++) {
            Check.due("RANK", desk.token(token, 0), due[token][0]);
            Check.due("SIDE", desk.token(token, 1), due[token][1]);
            Check.due("what -1", desk.token(token, -1), Check.NONE);
            Check.due("what 2", desk.token(token, 2), Check.NONE);
        }
        for (int token : new int[] {-1, 7, 8, 9, 10, 11, 14}) {
            Check.due("RANK of " + token, desk.token(token, 0), Check.NONE);
            Check.due("SIDE of " + token, desk.token(token, 1), Check.NONE);
            Check.due("nothing of " + token, desk.token(token, 2), Check.NONE);
        }
        for (int far : FAR) {
            Check.due("token " + far, desk.token(far, 0), Check.NONE);
            Check.due("what " + far, desk.token(0, far), Check.NONE);
        }
    }

    private static void withoutRank() {
        LalrDesk desk = Check.told("token a;token b;rank b 7 2;kind e;");
        Check.dueRow("RANK", k -> desk.token(k, 0), 0, 7, Check.NONE);
        Check.dueRow("SIDE", k -> desk.token(k, 1), 0, 2, Check.NONE);
        // what a text ahead said of RANKS is of no use
        Check.due("text", Check.tell(desk, "token a;token b;"), 2);
        Check.dueRow("RANK", k -> desk.token(k, 0), 0, 0, Check.NONE);
        Check.dueRow("SIDE", k -> desk.token(k, 1), 0, 0, Check.NONE);
    }

    /** "IndexOutOfBoundsException: no such KIND. NoSuchElementException: no such what." */
    private static void kinds() {
        LalrDesk desk = Check.told(FULL);
        int[][] due = {{0, 1 + 64, 1 + 64 + 128, 2, 4}, {1, 1, 1 + 64 + 128, 2, 0}, {0, 1 + 64, 16, 2, 1}, {0, 16, 1 + 64, 1, 2},
            {0, 1 + 64, 1 + 64 + 128, 5, 2}};
        for (int kind = 0; kind < 5; kind++) {
            for (int what = 0; what < 5; what++) {
                Check.due("kind(" + kind + ", " + what + ")", kind(desk, kind, what), due[kind][what]);
            }
            Check.due("kind(" + kind + ", 5)", kind(desk, kind, 5), ELEMENT);
            Check.due("kind(" + kind + ", -1)", kind(desk, kind, -1), ELEMENT);
        }
        for (int what = 0; what < 5; what++) {
            Check.due("kind(-1, " + what + ")", kind(desk, -1, what), INDEX);
            Check.due("kind(5, " + what + ")", kind(desk, 5, what), INDEX);
            // a KIND goes by its own number here
            Check.due("kind(10, " + what + ")", kind(desk, 10, what), INDEX);
        }
        for (int far : FAR) {
            Check.due("kind(" + far + ", 0)", kind(desk, far, 0), INDEX);
            Check.due("kind(4, " + far + ")", kind(desk, 4, far), ELEMENT);
        }
    }

    private static void bothWrong() {
        for (LalrDesk desk : new LalrDesk[] {new LalrDesk(), Check.told("token a;"), Check.told(FULL)}) {
            for (int what : new int[] {-1, 5, 6, Integer.MAX_VALUE, Integer.MIN_VALUE}) {
                Check.due("kind(-1, " + what + ")", kind(desk, -1, what), INDEX);
                Check.due("kind(5, " + what + ")", kind(desk, 5, what), INDEX);
            }
        }
        Check.due("kind(0, 0) of a new one", kind(new LalrDesk(), 0, 0), INDEX);
        Check.due("kind(0, 0) without KINDS", kind(Check.told("token a;"), 0, 0), INDEX);
    }

    private static void kindsThrowAndAllStays() {
        LalrDesk desk = Check.told("token a;kind s;rule s s a;rule s a;");
        Check.read(desk, 0, 0);
        Check.due("kind(1, 0)", kind(desk, 1, 0), INDEX);
        Check.due("kind(0, 5)", kind(desk, 0, 5), ELEMENT);
        Check.dueRow("count behind 7", k -> desk.count(7 + k), 1, 2, 3);
        Check.due("kind(0, 3)", kind(desk, 0, 3), 2);
    }

    /** "what 0 its KIND (its own number), 1 how many SYMBOLS, 2 .. 5 its SYMBOLS (-2: there are not so many), 6 its RANK." */
    private static void rules() {
        LalrDesk desk = Check.told(FULL);
        int[][] due = {{0, 4, 0, 1, 2, 3, 9}, {0, 4, 11, 12, 13, 14, 0}, {1, 0, -2, -2, -2, -2, 0}, {1, 1, 0, -2, -2, -2, 1},
            {2, 1, 6, -2, -2, -2, 5}, {2, 2, 11, 6, -2, -2, 5}, {3, 2, 4, 5, -2, -2, 9}, {4, 3, 6, 3, 11, -2, 9},
            {4, 1, 10, -2, -2, -2, 0}, {4, 2, 6, 6, -2, -2, 5}, {4, 4, 14, 14, 14, 14, 0}, {4, 4, 0, 10, 6, 11, 5}};
        for (int rule = 0; rule < 12; rule++) {
            int asked = rule;
            Check.dueRow("rule " + rule, what -> desk.rule(asked, what), due[rule]);
            Check.due("rule(" + rule + ", 7)", desk.rule(rule, 7), Check.NONE);
            Check.due("rule(" + rule + ", -1)", desk.rule(rule, -1), Check.NONE);
        }
        for (int what = -1; what <= 7; what++) {
            Check.due("rule(-1, " + what + ")", desk.rule(-1, what), Check.NONE);
            // START RULE is 12
            Check.due("rule(12, " + what + ")", desk.rule(12, what), Check.NONE);
            Check.due("rule(13, " + what + ")", desk.rule(13, what), Check.NONE);
        }
        for (int far : FAR) {
            Check.due("rule(" + far + ", 2)", desk.rule(far, 2), Check.NONE);
            Check.due("rule(11, " + far + ")", desk.rule(11, far), Check.NONE);
        }
    }

    /** "(of a RULE that of its last TOKEN, 0 without)": without a TOKEN, or if that TOKEN has none. */
    private static void ranksOfRules() {
        LalrDesk desk = Check.told("token a;token b;kind e;rule e a b;rule e b a;rule e a e;rule e b e e e;rule e a b e e;rule e e;"
            + "rule e;rule e e e e a;rank a 4 1;");
        Check.dueRow("RANK", rule -> desk.rule(rule, 6), 0, 4, 4, 0, 0, 0, 0, 4, Check.NONE);
    }

    private static void noSuchRules() {
        for (LalrDesk desk : new LalrDesk[] {new LalrDesk(), Check.told("token a;"), Check.told("kind e;")}) {
            for (int what = -1; what <= 7; what++) {
                Check.due("rule(0, " + what + ")", desk.rule(0, what), Check.NONE);
            }
        }
    }

    /** "EMPTY: a KIND that has a RULE of no SYMBOLS, or of KINDS alone that are EMPTY (by fewer steps)." */
    private static void emptyByFewerSteps() {
        LalrDesk self = Check.told("token a;kind s;kind t;kind u;rule s s;rule s s s s s;rule t s;rule u t u;");
        Check.dueRow("EMPTY", k -> kind(self, k, 0), 0, 0, 0, INDEX);
        LalrDesk chain = Check.told("token a;kind s;kind t;kind u;kind v;kind w;rule s t t t t;rule t u u u u;rule u v v v v;"
            + "rule v w w w w;rule w;");
        Check.dueRow("EMPTY", k -> kind(chain, k, 0), 1, 1, 1, 1, 1, INDEX);
        // the same numbered the other way round; and with one TOKEN in it none is but the last one
        LalrDesk back = Check.told("token a;kind s;kind t;kind u;kind v;kind w;rule w v v v v;rule v u u u u;rule u t t t t;"
            + "rule t s s s s;rule s;");
        Check.dueRow("EMPTY", k -> kind(back, k, 0), 1, 1, 1, 1, 1, INDEX);
        LalrDesk token = Check.told("token a;kind s;kind t;kind u;rule s t t t u;rule u t a t t;rule t;");
        Check.dueRow("EMPTY", k -> kind(token, k, 0), 0, 1, 0, INDEX);
    }

    /** "FIRST, the least sets (be KINDS of use or not) .. of none nothing." */
    private static void firstOfNothing() {
        LalrDesk desk = Check.told("token a;token b;kind s;kind t;kind u;kind v;rule s;rule t t;rule u v b;rule v t a;");
        Check.dueRow("FIRST", k -> kind(desk, k, 1), 0, 0, 0, 0, INDEX);
        Check.dueRow("SHORTEST", k -> kind(desk, k, 4), 0, -2, -2, -2, INDEX);
        // u and v are never come to from s, and have FIRST all the same
        LalrDesk without = Check.told("token a;token b;kind s;kind u;kind v;rule s a;rule u v b;rule v;rule v a;");
        Check.dueRow("FIRST", k -> kind(without, k, 1), 1, 1 + 2, 1, INDEX);
        Check.dueRow("FOLLOW", k -> kind(without, k, 2), 4, 0, 2, INDEX);
        LalrDesk bare = Check.told("kind s;");
        Check.dueRow("kind(0, ..)", what -> kind(bare, 0, what), 0, 0, 1, 0, -2, ELEMENT);
    }

    /** "FOLLOW of a KIND, the least sets: END of START; .. if all that is EMPTY (or nothing), FOLLOW of that RULE's KIND, too." */
    private static void followOfStart() {
        LalrDesk seven = Check.told("token a;token b;token c;token d;token e;token f;token g;kind s;kind t;kind u;"
            + "rule s t u g;rule t a;rule u;rule u s;");
        Check.dueRow("FOLLOW", k -> kind(seven, k, 2), 64 + 128, 1 + 64, 64, INDEX);
        // behind t nothing, behind u an EMPTY one
        LalrDesk nothing = Check.told("token a;kind s;kind t;kind u;rule s u t;rule t;rule u a;");
        Check.dueRow("FOLLOW", k -> kind(nothing, k, 2), 2, 2, 2, INDEX);
        // START is behind itself
        LalrDesk itself = Check.told("token a;kind s;rule s s s;rule s a;");
        Check.dueRow("FOLLOW", k -> kind(itself, k, 2), 1 + 2, INDEX);
    }

    /** "none, if it has more than 40": -2, and no TOKEN of it. */
    private static void shortestOfNone() {
        String text = "token a;kind s;kind t;kind u;kind v;kind w;rule t u u u u;rule u v v v v;rule v a a;rule s t u w;rule w ";
        for (int more = 0; more <= 2; more++) {
            // s stands for 32 and 8 and for so many more
            LalrDesk desk = Check.told(text + "a a".substring(0, Math.max(0, 2 * more - 1)) + ";");
            Check.due("SHORTEST of t", kind(desk, 1, 4), 32);
            Check.due("SHORTEST of s", kind(desk, 0, 4), more == 0 ? 40 : Check.NOTHING);
            Check.due("the 40th", desk.shortest(0, 39), more == 0 ? 0 : Check.NOTHING);
            Check.due("the 41st", desk.shortest(0, 40), Check.NOTHING);
            Check.due("the first", desk.shortest(0, 0), more == 0 ? 0 : Check.NOTHING);
        }
    }
}
