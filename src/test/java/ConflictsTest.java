/** Promises 16, 17 and 34: conflicts, and how many there are by tables tried otherwise. */
public final class ConflictsTest {
    private static final String SUMS = "token n;token p;token m;kind e;rule e e p e;rule e e m e;rule e n;";

    public static void main(String[] args) {
        none();
        one();
        inOrder();
        byRanks();
        triedWithoutRanks();
        triedWithoutARule();
        triedWithOtherStarts();
        triedByFollow();
        triedTooMany();
        triedLeavesAllElse();
        wrongTrials();
        Check.end();
    }

    private static void none() {
        Check.due("conflicts", new LalrDesk().conflicts(), 0);
        Check.due("conflict", new LalrDesk().conflict(0, 0), Check.NONE);
        Check.due("conflicts", Check.told("token a;kind e;rule e a e;rule e a;").conflicts(), 0);
    }

    private static void one() {
        LalrDesk desk = Check.told(StatesTest.HANGING);
        Check.due("conflicts", desk.conflicts(), 1);
        Check.dueRow("conflict", what -> desk.conflict(0, what), 4, 1, 1005, 0, Check.NONE);
        Check.due("conflict(1, 0)", desk.conflict(1, 0), Check.NONE);
        for (int k : Check.WRONG) {
            Check.due("conflict(" + k + ", 0)", desk.conflict(k, 0), Check.NONE);
            Check.due("conflict(0, " + k + ")", desk.conflict(0, k), Check.NONE);
        }
    }

    private static void inOrder() {
        // e p e . and e m e ., each for p and for m
        LalrDesk desk = Check.told(SUMS);
        Check.due("conflicts", desk.conflicts(), 4);
        int plus = desk.move(desk.move(desk.move(0, 10), 1), 10);
        int times = desk.move(desk.move(desk.move(0, 10), 2), 10);
        int[][] due = {{plus, 1, desk.action(plus, 1), 0}, {plus, 2, desk.action(plus, 2), 0},
            {times, 1, desk.action(times, 1), 1}, {times, 2, desk.action(times, 2), 1}, {-1, -1, -1, -1}};
        Check.due("SHIFT", due[0][2], 1000 + desk.move(plus, 1));
        for (int k = 0; k < due.length; k++) {
            int asked = k;
            Check.dueRow("conflict " + k, what -> desk.conflict(asked, what), due[k]);
        }
        // several RULES left out of one STATE and TERMINAL, the least first
        LalrDesk many = Check.told("token a;kind s;kind x;kind y;kind z;rule s x;rule s y;rule s z;rule s a;rule z a;rule y a;"
            + "rule x a;");
        Check.due("conflicts", many.conflicts(), 3);
        Check.dueRow("RULE left out", k -> many.conflict(k, 3), 4, 5, 6, Check.NONE);
        Check.dueRow("ACTION", k -> many.conflict(k, 2), 2003, 2003, 2003, Check.NONE);
    }

    private static void byRanks() {
        Check.due("both ranked", Check.told(SUMS + "rank p 1 0;rank m 2 0;").conflicts(), 0);
        Check.due("both ranked", Check.told(SUMS + "rank p 1 2;rank m 1 1;").conflicts(), 0);
        Check.due("p alone", Check.told(SUMS + "rank p 1 0;").conflicts(), 3);
        Check.due("n alone", Check.told(SUMS + "rank n 1 0;").conflicts(), 4);
        // the RANK of a RULE is that of its last TOKEN, be it without
        String unary = "token n;token p;token q;kind e;rule e p e q e;rule e e p e;rule e n;";
        Check.due("q is without", Check.told(unary + "rank p 1 0;").conflicts(), 1);
        Check.due("p and q", Check.told(unary + "rank p 1 0;rank q 2 0;").conflicts(), 0);
    }

    private static void triedWithoutRanks() {
        LalrDesk desk = Check.told(SUMS + "rank p 1 0;rank m 2 0;");
        Check.due("as it is", desk.conflicts(), 0);
        Check.due("tried(0, 0)", desk.tried(0, 0), 4);
        Check.due("tried(1, 0)", desk.tried(1, 0), 0);
        LalrDesk sides = Check.told(SUMS + "rank p 1 0;rank m 1 2;");
        Check.due("tried(1, 0)", sides.tried(1, 0), 0);
        LalrDesk part = Check.told(SUMS + "rank p 1 0;");
        Check.due("tried(0, 0)", part.tried(0, 0), 4);
        Check.due("tried(1, 0)", part.tried(1, 0), 3);
    }

    private static void triedWithoutARule() {
        LalrDesk desk = Check.told(SUMS);
        Check.dueRow("tried(2, ..)", rule -> desk.tried(2, rule), 1, 1, 4, Check.NONE);
        LalrDesk hanging = Check.told(StatesTest.HANGING);
        Check.dueRow("tried(2, ..)", rule -> hanging.tried(2, rule), 0, 0, 1, Check.NONE);
        // k without its RULE of no SYMBOLS is never there, but its other RULE still has its DOT at the end ahead of a
        LalrDesk empty = Check.told("token a;kind s;kind k;rule s k a;rule k;rule k k;");
        Check.due("conflicts", empty.conflicts(), 1);
        Check.dueRow("tried(2, ..)", rule -> empty.tried(2, rule), 0, 1, 0, Check.NONE);
        LalrDesk ranked = Check.told(SUMS + "rank p 1 0;rank m 2 0;");
        Check.dueRow("tried(2, ..)", rule -> ranked.tried(2, rule), 0, 0, 0, Check.NONE);
    }

    private static void triedWithOtherStarts() {
        // s: e alone is without CONFLICTS: e isn't in it; f: f f a is not
        LalrDesk desk = Check.told("token a;kind s;kind f;kind g;rule s a s;rule s a;rule f f f;rule f a;");
        Check.due("conflicts", desk.conflicts(), 0);
        Check.dueRow("tried(3, ..)", kind -> desk.tried(3, kind), 0, 1, 0, Check.NONE);
        // END is behind START alone: y is REDUCED ahead of END only if START is t
        LalrDesk other = Check.told("token a;token b;kind s;kind t;kind x;kind y;rule s t b;rule t x;rule t y;rule x a;rule y a;");
        Check.due("conflicts", other.conflicts(), 1);
        Check.due("TERMINAL", other.conflict(0, 1), 1);
        Check.dueRow("tried(3, ..)", kind -> other.tried(3, kind), 1, 1, 0, 0, Check.NONE);
    }

    private static void triedByFollow() {
        LalrDesk giving = Check.told("token i;token q;token s;kind g;kind l;kind r;rule g l q r;rule g r;rule l s r;rule l i;"
            + "rule r l;");
        Check.due("by LOOK", giving.conflicts(), 0);
        Check.due("by FOLLOW", giving.tried(4, 0), 1);
        // by FOLLOW, too, START RULE is only for END, and FOLLOW is of START as told
        LalrDesk hanging = Check.told(StatesTest.HANGING);
        Check.due("by FOLLOW", hanging.tried(4, 0), 1);
        Check.due("by FOLLOW with ranks", Check.told(StatesTest.HANGING + "rank i 1 0;rank l 2 0;").tried(4, 0), 0);
    }

    /** As many STATES as may be from the first KIND; from the second one, of which the first one is a part, more. */
    private static void triedTooMany() {
        StringBuilder text = new StringBuilder();
        for (char token = 'a'; token <= 'g'; token++) {
            text.append("token ").append(token).append(';');
        }
        text.append("kind s;kind t;kind u;kind v;");
        text.append("rule t a u a a;rule t b v a a;rule t c a a a;rule t d a a a;rule t e a a a;rule t f a a a;");
        text.append("rule u b b b b;rule u c b b b;rule u d b b b;rule v b c c c;rule v c c c c;rule v d c c c;");
        LalrDesk desk = Check.told(text.toString());
        Check.due("STATES", desk.count(3), 2);
        Check.dueRow("tried(3, ..)", kind -> desk.tried(3, kind), 0, Check.NOTHING, 0, 0, Check.NONE);
        Check.due("STATES", desk.count(3), 2);
        Check.due("missing", desk.missing(), (1 << 12) - 1);
    }

    private static void triedLeavesAllElse() {
        LalrDesk desk = Check.told(SUMS + "rank p 1 0;rank m 2 0;");
        Check.read(desk, 0, 1);
        int[] ahead = new int[14];
        for (int what = 0; what < 14; what++) {
            ahead[what] = desk.count(what);
        }
        for (int what = 0; what < 5; what++) {
            desk.tried(what, 0);
        }
        desk.missing();
        Check.dueRow("count", desk::count, ahead);
        Check.due("RANK", desk.token(1, 0), 1);
        Check.due("SIDE", desk.token(1, 1), 0);
        Check.due("conflicts", desk.conflicts(), 0);
        Check.due("rule", desk.rule(0, 1), 3);
        Check.due("read", desk.read(0), 0);
    }

    private static void wrongTrials() {
        LalrDesk desk = Check.told(SUMS);
        for (int what : new int[] {-1, 5, 6, Integer.MAX_VALUE, Integer.MIN_VALUE}) {
            Check.due("tried(" + what + ", 0)", desk.tried(what, 0), Check.NONE);
        }
        for (int what = 0; what < 5; what++) {
            for (int i : Check.WRONG) {
                Check.due("tried(" + what + ", " + i + ")", desk.tried(what, i), Check.NONE);
            }
        }
        Check.due("tried(0, 1)", desk.tried(0, 1), Check.NONE);
        Check.due("tried(1, 1)", desk.tried(1, 1), Check.NONE);
        Check.due("tried(4, 1)", desk.tried(4, 1), Check.NONE);
        LalrDesk none = new LalrDesk();
        Check.dueRow("tried(.., 0)", what -> none.tried(what, 0), 0, 0, Check.NONE, Check.NONE, 0, Check.NONE);
    }
}
