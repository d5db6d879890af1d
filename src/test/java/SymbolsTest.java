import java.util.NoSuchElementException;

/** Promises 6 to 8: what is told of tokens, kinds and rules. */
public final class SymbolsTest {
    private static final int INDEX = -101;
    private static final int ELEMENT = -102;

    public static void main(String[] args) {
        tokens();
        kinds();
        firstAndFollowThroughEmpties();
        emptyByEmpty();
        shortestOfKinds();
        kindsWithoutUse();
        rules();
        Check.end();
    }

    private static void tokens() {
        LalrDesk desk = Check.told("token a;token b;token c;rank b 9 2;rank a 1 0;");
        Check.dueRow("RANK", k -> desk.token(k, 0), 1, 9, 0, Check.NONE);
        Check.dueRow("SIDE", k -> desk.token(k, 1), 0, 2, 0, Check.NONE);
        for (int k : Check.WRONG) {
            Check.due("token(" + k + ", 0)", desk.token(k, 0), Check.NONE);
            Check.due("token(0, " + k + ")", desk.token(0, k), Check.NONE);
        }
        Check.due("token(0, 2)", desk.token(0, 2), Check.NONE);
        Check.due("token(10, 0)", Check.told("token a;kind e;").token(10, 0), Check.NONE);
    }

    private static int kind(LalrDesk desk, int kind, int what) {
        try {
            return desk.kind(kind, what);
        } catch (IndexOutOfBoundsException problem) {
            return INDEX;
        } catch (NoSuchElementException problem) {
            return ELEMENT;
        }
    }

    private static void kinds() {
        // s: x y c | ; x: a | ; y: x b | s
        LalrDesk desk = Check.told("token a;token b;token c;kind s;kind x;kind y;"
            + "rule s x y c;rule x;rule x a;rule y x b;rule y s;");
        Check.dueRow("EMPTY", k -> kind(desk, k, 0), 0, 1, 0, INDEX);
        Check.dueRow("FIRST", k -> kind(desk, k, 1), 3, 1, 3, INDEX);
        Check.dueRow("FOLLOW", k -> kind(desk, k, 2), 4 + 8, 1 + 2, 4, INDEX);
        Check.dueRow("RULES", k -> kind(desk, k, 3), 1, 2, 2, INDEX);
        Check.dueRow("SHORTEST", k -> kind(desk, k, 4), 2, 0, 1, INDEX);
        for (int k : Check.WRONG) {
            Check.due("kind(" + k + ", 0)", kind(desk, k, 0), INDEX);
            Check.due("kind(0, " + k + ")", kind(desk, 0, k), ELEMENT);
            Check.due("kind(" + k + ", " + k + ")", kind(desk, k, k), INDEX);
        }
        Check.due("kind(2, 5)", kind(desk, 2, 5), ELEMENT);
        Check.due("kind(3, 5)", kind(desk, 3, 5), INDEX);
        Check.due("kind(10, 0)", kind(desk, 10, 0), INDEX);
        Check.due("kind(0, 0) without KINDS", kind(new LalrDesk(), 0, 0), INDEX);
        Check.due("kind(0, 7) without KINDS", kind(new LalrDesk(), 0, 7), INDEX);
    }

    private static void firstAndFollowThroughEmpties() {
        // x, y and z are EMPTY, each begins with a TOKEN of its own
        LalrDesk desk = Check.told("token a;token b;token c;token d;kind s;kind x;kind y;kind z;rule s x y z d;rule x;rule x a;"
            + "rule y;rule y b;rule z;rule z c;");
        Check.dueRow("FIRST", k -> kind(desk, k, 1), 15, 1, 2, 4);
        Check.dueRow("FOLLOW", k -> kind(desk, k, 2), 16, 14, 12, 8);
        // behind x all is EMPTY: what is behind s, too
        LalrDesk tail = Check.told("token a;token b;token c;token d;kind s;kind x;kind y;rule s x y;rule s d s a;rule x;rule x c;"
            + "rule y;rule y b;");
        Check.dueRow("FIRST", k -> kind(tail, k, 1), 4 + 2 + 8, 4, 2);
        Check.dueRow("FOLLOW", k -> kind(tail, k, 2), 1 + 16, 2 + 1 + 16, 1 + 16);
    }

    private static void emptyByEmpty() {
        // l is EMPTY by five steps; m by itself alone isn't
        LalrDesk desk = Check.told("token a;kind h;kind i;kind j;kind k;kind l;"
            + "rule l k k k k;rule k j;rule j i i;rule i h;rule h;");
        Check.dueRow("EMPTY", k -> kind(desk, k, 0), 1, 1, 1, 1, 1);
        Check.dueRow("FIRST", k -> kind(desk, k, 1), 0, 0, 0, 0, 0);
        Check.dueRow("FOLLOW", k -> kind(desk, k, 2), 2, 0, 0, 0, 0);
        LalrDesk round = Check.told("token a;kind e;kind f;kind g;rule e f;rule f e;rule f e f;rule g e a;rule g;");
        Check.dueRow("EMPTY", k -> kind(round, k, 0), 0, 0, 1);
        Check.dueRow("FIRST", k -> kind(round, k, 1), 0, 0, 0);
        Check.dueRow("FOLLOW", k -> kind(round, k, 2), 1 + 2, 1 + 2, 0);
        Check.dueRow("SHORTEST", k -> kind(round, k, 4), Check.NOTHING, Check.NOTHING, 0);
    }

    private static void shortestOfKinds() {
        // k stands for 4 tokens, j for 16, h for 40, i for 41
        String text = "token a;kind h;kind i;kind j;kind k;kind l;rule h j j k k;rule i h a;rule j k k k k;"
            + "rule k a a a a;rule l i;";
        LalrDesk desk = Check.told(text);
        Check.dueRow("SHORTEST", k -> kind(desk, k, 4), 40, Check.NOTHING, 16, 4, Check.NOTHING);
        LalrDesk other = Check.told(text + "rule l h;rule i a l;rule i a;");
        Check.dueRow("SHORTEST", k -> kind(other, k, 4), 40, 1, 16, 4, 1);
    }

    private static void kindsWithoutUse() {
        LalrDesk desk = Check.told("token a;token b;kind s;kind t;kind u;rule s a;rule t u b;rule u s;");
        Check.dueRow("FIRST", k -> kind(desk, k, 1), 1, 1, 1);
        Check.dueRow("FOLLOW", k -> kind(desk, k, 2), 2 + 4, 0, 2);
        Check.dueRow("RULES", k -> kind(desk, k, 3), 1, 1, 1);
        LalrDesk bare = Check.told("kind s;kind t;");
        Check.dueRow("EMPTY", k -> kind(bare, k, 0), 0, 0, INDEX);
        Check.dueRow("FOLLOW", k -> kind(bare, k, 2), 1, 0, INDEX);
        Check.dueRow("RULES", k -> kind(bare, k, 3), 0, 0, INDEX);
    }

    private static void rules() {
        LalrDesk desk = Check.told("token a;token b;kind s;kind t;rule t a s b t;rule s b t a;rule s;rule s s;"
            + "rank a 4 0;");
        int[][] due = {{1, 4, 0, 10, 1, 11, 0}, {0, 3, 1, 11, 0, -2, 4}, {0, 0, -2, -2, -2, -2, 0},
            {0, 1, 10, -2, -2, -2, 0}};
        for (int rule = 0; rule < due.length; rule++) {
            int asked = rule;
            Check.dueRow("rule " + rule, what -> desk.rule(asked, what), due[rule]);
            Check.due("rule(" + rule + ", 7)", desk.rule(rule, 7), Check.NONE);
        }
        Check.due("START RULE", desk.rule(4, 0), Check.NONE);
        for (int k : Check.WRONG) {
            Check.due("rule(" + k + ", 0)", desk.rule(k, 0), Check.NONE);
            Check.due("rule(0, " + k + ")", desk.rule(0, k), Check.NONE);
        }
        Check.due("rule(0, 0) without RULES", Check.told("kind e;").rule(0, 0), Check.NONE);
    }
}
