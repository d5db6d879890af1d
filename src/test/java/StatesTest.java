/** Promises 9 to 15: states, items, moves, actions, look, after, relations. */
public final class StatesTest {
    /** The hanging "else"; START RULE is 3, END 3. Worked out by hand in the comments of each promise. */
    static final String HANGING = "token i;token l;token o;kind s;rule s i s;rule s i s l s;rule s o;";
    /** Not SLR: l stands for what can be given to and taken from. START RULE is 5, END 3. */
    private static final String GIVING = "token i;token q;token s;kind g;kind l;kind r;"
        + "rule g l q r;rule g r;rule l s r;rule l i;rule r l;";
    /** k is empty; START RULE is 2, END 2. */
    private static final String EMPTY = "token a;token b;kind s;kind k;rule s k a k b;rule k;";

    public static void main(String[] args) {
        states();
        items();
        moves();
        actions();
        actionsByRanks();
        reducesByReduces();
        accepts();
        looks();
        looksThroughEmpties();
        afters();
        aftersOfReads();
        relations();
        readsItself();
        startOfNoRules();
        noStates();
        calculator();
        Check.end();
    }

    private static void states() {
        LalrDesk desk = Check.told(HANGING);
        int[][] due = {{1, 4, -2, 0, 2}, {2, 5, 0, 1, 2}, {1, 1, 2, 1, 2}, {1, 1, 10, 1, 1}, {2, 2, 10, 2, 2},
            {1, 4, 1, 3, 2}, {1, 1, 10, 4, 2}};
        for (int state = 0; state < due.length; state++) {
            int asked = state;
            Check.dueRow("state " + state, what -> desk.state(asked, what), due[state]);
            Check.due("state(" + state + ", 5)", desk.state(state, 5), Check.NONE);
        }
        Check.due("state(7, 0)", desk.state(7, 0), Check.NONE);
        for (int k : Check.WRONG) {
            Check.due("state(" + k + ", 0)", desk.state(k, 0), Check.NONE);
            Check.due("state(0, " + k + ")", desk.state(0, k), Check.NONE);
        }
        LalrDesk without = Check.told("token a;kind s;kind t;rule s t a;");
        Check.dueRow("no SHORTEST to a STATE", state -> without.state(state, 3), 0, -2, -2, -2);
    }

    private static void items() {
        LalrDesk desk = Check.told(HANGING);
        int[][] due = {{30}, {1, 11}, {21}, {31}, {2, 12}, {13}, {14}};
        for (int state = 0; state < due.length; state++) {
            int asked = state;
            Check.dueRow("item of " + state, k -> desk.item(asked, k), due[state]);
            Check.due("one more of " + state, desk.item(state, due[state].length), Check.NOTHING);
            Check.due("item(" + state + ", -1)", desk.item(state, -1), Check.NONE);
            Check.due("item(.., MAX)", desk.item(state, Integer.MAX_VALUE), Check.NOTHING);
        }
        Check.due("item(7, 0)", desk.item(7, 0), Check.NONE);
        Check.due("item(-1, 0)", desk.item(-1, 0), Check.NONE);
        Check.due("item(7, -1)", desk.item(7, -1), Check.NONE);
        Check.due("item(0, MIN)", desk.item(0, Integer.MIN_VALUE), Check.NONE);
        // one KERNEL with two DOTS of one RULE: behind e e in e: e e e
        LalrDesk dots = Check.told("token a;kind e;rule e e e e;rule e a;");
        Check.dueRow("DOTS", k -> dots.item(3, k), 1, 2, -2);
        Check.dueRow("all DOTS", k -> dots.item(4, k), 1, 2, 3, -2);
        // the greatest numbers: START RULE behind twelve RULES
        LalrDesk twelve = Check.told("token a;token b;kind e;kind f;rule e;rule e a;rule e b;rule e f;rule e a a;rule e a b;"
            + "rule e b a;rule e b b;rule f e a;rule f e b;rule f f;rule f a a f b;");
        Check.due("START RULE", twelve.item(0, 0), 120);
        Check.due("START RULE", twelve.item(twelve.move(0, 10), 2), 121);
    }

    private static void moves() {
        LalrDesk desk = Check.told(HANGING);
        int[][] due = {{1, -2, 2, 3}, {1, -2, 2, 4}, {-2, -2, -2, -2}, {-2, -2, -2, -2}, {-2, 5, -2, -2}, {1, -2, 2, 6},
            {-2, -2, -2, -2}};
        for (int state = 0; state < due.length; state++) {
            int asked = state;
            Check.dueRow("move of " + state, k -> desk.move(asked, k < 3 ? k : 10), due[state]);
            for (int symbol : new int[] {-1, 3, 9, 11, 15, Integer.MAX_VALUE, Integer.MIN_VALUE}) {
                Check.due("move by " + symbol, desk.move(state, symbol), Check.NONE);
            }
        }
        for (int k : Check.WRONG) {
            Check.due("move(" + k + ", 0)", desk.move(k, 0), Check.NONE);
        }
        Check.due("move(7, 0)", desk.move(7, 0), Check.NONE);
        Check.due("move(0, 0) without KINDS", Check.told("token a;").move(0, 0), Check.NONE);
    }

    private static void actions() {
        LalrDesk desk = Check.told(HANGING);
        int[][] due = {{1001, 0, 1002, 0}, {1001, 0, 1002, 0}, {0, 2002, 0, 2002}, {0, 0, 0, 3000}, {0, 1005, 0, 2000},
            {1001, 0, 1002, 0}, {0, 2001, 0, 2001}};
        for (int state = 0; state < due.length; state++) {
            int asked = state;
            Check.dueRow("action of " + state, k -> desk.action(asked, k), due[state]);
            Check.due("action(" + state + ", 4)", desk.action(state, 4), Check.NONE);
        }
        Check.due("action(7, 0)", desk.action(7, 0), Check.NONE);
        Check.due("action(0, 10)", desk.action(0, 10), Check.NONE);
        for (int k : Check.WRONG) {
            Check.due("action(" + k + ", 0)", desk.action(k, 0), Check.NONE);
            Check.due("action(0, " + k + ")", desk.action(0, k), Check.NONE);
        }
        // by LOOK, not by FOLLOW: behind l in STATE 0 is q, so it isn't reduced to r there
        LalrDesk giving = Check.told(GIVING);
        int behind = giving.move(0, 11);
        Check.due("SHIFT", giving.action(behind, 1), 1000 + giving.move(behind, 1));
        Check.due("REDUCE", giving.action(behind, 3), 2004);
        Check.due("no CONFLICT", giving.conflicts(), 0);
    }

    private static void actionsByRanks() {
        // STATE 4 for l: RULE 0 (of the RANK of i) or SHIFT to 5 (by the RANK of l)
        Object[][] due = {{"rank i 3 0;rank l 4 0;", 1005, 0}, {"rank i 4 1;rank l 3 1;", 2000, 0},
            {"rank i 3 1;rank l 3 0;", 2000, 0}, {"rank i 3 0;rank l 3 1;", 1005, 0}, {"rank i 3 0;rank l 3 2;", 0, 0},
            {"rank i 3 0;", 1005, 1}, {"rank l 3 0;", 1005, 1}, {"rank o 3 0;rank l 3 0;", 1005, 1}};
        for (Object[] row : due) {
            LalrDesk desk = Check.told(HANGING + row[0]);
            Check.due("ACTION with " + row[0], desk.action(4, 1), (int) row[1]);
            Check.due("CONFLICTS with " + row[0], desk.conflicts(), (int) row[2]);
            Check.due("ACTIONS with " + row[0], desk.state(4, 4), (int) row[1] == 0 ? 1 : 2);
        }
    }

    private static void reducesByReduces() {
        // s: x | y | z; each of x, y, z: a
        String text = "token a;token b;kind s;kind x;kind y;kind z;rule s x;rule s y;rule s z b;rule z a;rule y a;rule x a;";
        LalrDesk desk = Check.told(text);
        int behind = desk.move(0, 0);
        Check.due("of x, y the least RULE", desk.action(behind, 2), 2004);
        Check.due("only z has b behind it", desk.action(behind, 1), 2003);
        Check.due("CONFLICTS", desk.conflicts(), 1);
        Check.due("RULE left out", desk.conflict(0, 3), 5);
        // ranks are of no use among REDUCES
        Check.due("the least RULE", Check.told(text + "rank a 9 0;").action(behind, 2), 2004);
        // three at once, with a SHIFT: only the least RULE is held against it
        String three = "token a;token b;kind s;kind x;kind y;kind z;rule s x b;rule s y b;rule s z b;rule s a b;"
            + "rule x a;rule y a;rule z a;";
        LalrDesk plain = Check.told(three);
        Check.due("SHIFT", plain.action(plain.move(0, 0), 1) / 1000, 1);
        Check.due("CONFLICTS", plain.conflicts(), 3);
        LalrDesk ranked = Check.told(three + "rank a 2 0;rank b 1 0;");
        Check.due("REDUCE", ranked.action(ranked.move(0, 0), 1), 2004);
        Check.due("CONFLICTS", ranked.conflicts(), 2);
        LalrDesk neither = Check.told(three + "rank a 2 0;rank b 2 2;");
        Check.due("no ACTION", neither.action(neither.move(0, 0), 1), 0);
        Check.dueRow("RULES left out", k -> neither.conflict(k, 3), 5, 6, -1);
        Check.due("ACTION there", neither.conflict(0, 2), 0);
    }

    private static void accepts() {
        // behind s END: ACCEPT, though s: s could be REDUCED, too
        LalrDesk desk = Check.told("token a;kind s;rule s s;rule s a;");
        int behind = desk.move(0, 10);
        Check.due("ACCEPT", desk.action(behind, 1), 3000);
        Check.due("CONFLICTS", desk.conflicts(), 1);
        Check.dueRow("CONFLICT", what -> desk.conflict(0, what), behind, 1, 3000, 0, -1);
        LalrDesk two = Check.told("token a;kind s;kind t;rule s s;rule t s;rule s t;rule s a;");
        Check.due("all of them are CONFLICTS", two.conflicts(), 2);
    }

    private static void looks() {
        LalrDesk desk = Check.told(HANGING);
        int[][] due = {{-2, -2, -2, -2}, {-2, -2, -2, -2}, {-2, -2, 10, -2}, {-2, -2, -2, 8}, {10, -2, -2, -2},
            {-2, -2, -2, -2}, {-2, 10, -2, -2}};
        for (int state = 0; state < due.length; state++) {
            int asked = state;
            Check.dueRow("look in " + state, rule -> desk.look(asked, rule), due[state]);
            Check.due("look(" + state + ", 4)", desk.look(state, 4), Check.NONE);
        }
        Check.due("look(7, 0)", desk.look(7, 0), Check.NONE);
        for (int k : Check.WRONG) {
            Check.due("look(" + k + ", 0)", desk.look(k, 0), Check.NONE);
            Check.due("look(0, " + k + ")", desk.look(0, k), Check.NONE);
        }
        // x: c in the STATE behind c is looked at by what is behind x in two places: they are told as one
        LalrDesk merged = Check.told("token a;token b;token c;token d;kind s;kind x;kind y;rule s a x d;rule s b y d;"
            + "rule s a y a;rule s b x a;rule x c;rule y c;");
        int behind = merged.move(merged.move(0, 0), 2);
        Check.due("of both a and b", merged.move(merged.move(0, 1), 2), behind);
        Check.due("LOOK of x", merged.look(behind, 4), 1 + 8);
        Check.due("LOOK of y", merged.look(behind, 5), 1 + 8);
        Check.due("CONFLICTS", merged.conflicts(), 2);
        // FOLLOW of r is q and END, LOOK only END in the STATE behind l
        LalrDesk giving = Check.told(GIVING);
        Check.due("LOOK", giving.look(giving.move(0, 11), 4), 8);
        Check.due("FOLLOW", giving.kind(2, 2), 2 + 8);
    }

    private static void looksThroughEmpties() {
        LalrDesk desk = Check.told(EMPTY);
        Check.due("k of no SYMBOLS ahead of a", desk.look(0, 1), 1);
        int behind = desk.move(desk.move(0, 11), 0);
        Check.due("k of no SYMBOLS ahead of b", desk.look(behind, 1), 2);
        Check.due("START RULE", desk.look(desk.move(0, 10), 2), 4);
        LalrDesk tail = Check.told("token a;token b;kind s;kind x;kind y;rule s x y y;rule x a;rule y;rule y b;");
        Check.due("all behind x is EMPTY", tail.look(tail.move(0, 0), 1), 2 + 4);
        Check.due("y ahead of y", tail.look(tail.move(0, 11), 2), 2 + 4);
    }

    private static void afters() {
        LalrDesk desk = Check.told(HANGING);
        Check.dueRow("after", state -> desk.after(state, 0), 8, 10, -2, -2, -2, 10, -2, -1);
        Check.due("after(0, 1)", desk.after(0, 1), Check.NONE);
        Check.due("after(0, 10)", desk.after(0, 10), Check.NONE);
        for (int k : Check.WRONG) {
            Check.due("after(" + k + ", 0)", desk.after(k, 0), Check.NONE);
            Check.due("after(0, " + k + ")", desk.after(0, k), Check.NONE);
        }
    }

    private static void aftersOfReads() {
        // behind x from STATE 0 y can be read over, then c comes
        LalrDesk desk = Check.told("token a;token b;token c;kind s;kind x;kind y;rule s x y c;rule x;rule x a;rule y;rule y b;");
        Check.due("AFTER s", desk.after(0, 0), 8);
        Check.due("AFTER x", desk.after(0, 1), 2 + 4);
        Check.due("AFTER y", desk.after(desk.move(0, 11), 2), 4);
        Check.due("no MOVE", desk.after(0, 2), Check.NOTHING);
    }

    private static void relations() {
        LalrDesk desk = Check.told(HANGING);
        Check.dueRow("relations", desk::relations, 3, 0, 6, 9, 1, Check.NONE);
        for (int k : Check.WRONG) {
            Check.due("relations(" + k + ")", desk.relations(k), Check.NONE);
        }
        LalrDesk empty = Check.told(EMPTY);
        // MOVES: s and k from 0, k behind k a; the first one READS none, for a comes; LOOKBACKS: s, k, k
        Check.dueRow("relations", empty::relations, 3, 0, 0, 3, 0);
        // s: x y; both EMPTY: x from 0 READS y, y INCLUDES s, x INCLUDES s
        LalrDesk both = Check.told("token a;kind s;kind x;kind y;rule s x y;rule x;rule y;");
        Check.dueRow("relations", both::relations, 3, 1, 2, 3, 0);
        // s: t, t: u, u: s, s: a: all from 0, one ring of three
        LalrDesk ring = Check.told("token a;kind s;kind t;kind u;rule s t;rule t u;rule u s;rule s a;");
        Check.dueRow("relations", ring::relations, 3, 0, 3, 4, 1);
        // behind a the same again
        LalrDesk rings = Check.told("token a;token b;kind s;kind t;kind u;rule s t;rule t u;rule u t;rule u s;rule s b;"
            + "rule t a s b;");
        Check.dueRow("relations", rings::relations, 6, 0, 8, 12, 2);
    }

    private static void readsItself() {
        // s: k s | ; k: . Behind k one MOVES by k to where one is: it READS and INCLUDES itself
        LalrDesk desk = Check.told("token a;kind s;kind k;rule s k s;rule s;rule k;");
        int behind = desk.move(0, 11);
        Check.due("a MOVE to where one is", desk.move(behind, 11), behind);
        // READS: k from 0 and k from there both k and s; INCLUDES: s from there s of both and itself; k s, too
        Check.dueRow("relations", desk::relations, 4, 4, 4, 6, 0);
    }

    private static void startOfNoRules() {
        LalrDesk desk = Check.told("token a;kind s;kind t;rule t a;");
        Check.due("STATES", desk.count(3), 2);
        Check.due("ACCEPT", desk.action(1, 1), 3000);
        Check.due("by s", desk.move(0, 10), 1);
        Check.due("not by t", desk.move(0, 11), Check.NOTHING);
        Check.dueRow("relations", desk::relations, 1, 0, 0, 0, 0);
        Check.due("AFTER", desk.after(0, 0), 2);
    }

    private static void noStates() {
        LalrDesk desk = Check.told("token a;rank a 1 1;");
        Check.due("state", desk.state(0, 0), Check.NONE);
        Check.due("item", desk.item(0, 0), Check.NONE);
        Check.due("action", desk.action(0, 0), Check.NONE);
        Check.due("look", desk.look(0, 0), Check.NONE);
        Check.due("after", desk.after(0, 0), Check.NONE);
        Check.dueRow("relations", desk::relations, 0, 0, 0, 0, 0, Check.NONE);
    }

    /** The well-known tables of sums of products: e, t, f of n, p(lus), m(ultiplied), o(pen), c(losed). */
    private static void calculator() {
        LalrDesk desk = Check.told("token n;token p;token m;token o;token c;kind e;kind t;kind f;rule e e p t;rule e t;"
            + "rule t t m f;rule t f;rule f o e c;rule f n;");
        Check.dueRow("count", desk::count, 5, 3, 6, 12, 34, 22, 36);
        int[][] actions = {{1001, 0, 0, 1002, 0, 0}, {0, 2005, 2005, 0, 2005, 2005}, {1001, 0, 0, 1002, 0, 0},
            {0, 1007, 0, 0, 0, 3000}, {0, 2001, 1008, 0, 2001, 2001}, {0, 2003, 2003, 0, 2003, 2003},
            {0, 1007, 0, 0, 1009, 0}, {1001, 0, 0, 1002, 0, 0}, {1001, 0, 0, 1002, 0, 0},
            {0, 2004, 2004, 0, 2004, 2004}, {0, 2000, 1008, 0, 2000, 2000}, {0, 2002, 2002, 0, 2002, 2002}};
        int[][] moves = {{3, 4, 5}, {-2, -2, -2}, {6, 4, 5}, {-2, -2, -2}, {-2, -2, -2}, {-2, -2, -2}, {-2, -2, -2},
            {-2, 10, 5}, {-2, -2, 11}, {-2, -2, -2}, {-2, -2, -2}, {-2, -2, -2}};
        int[][] afters = {{34, 38, 38}, {-2, -2, -2}, {18, 22, 22}, {-2, -2, -2}, {-2, -2, -2}, {-2, -2, -2}, {-2, -2, -2},
            {-2, 54, 54}, {-2, -2, 54}, {-2, -2, -2}, {-2, -2, -2}, {-2, -2, -2}};
        for (int state = 0; state < actions.length; state++) {
            int asked = state;
            Check.dueRow("action of " + state, k -> desk.action(asked, k), actions[state]);
            Check.dueRow("move of " + state, k -> desk.move(asked, 10 + k), moves[state]);
            Check.dueRow("after " + state, k -> desk.after(asked, k), afters[state]);
        }
        Check.due("LOOK", desk.look(4, 1), 50);
        Check.due("LOOK", desk.look(10, 0), 50);
        Check.due("LOOK", desk.look(5, 3), 54);
        Check.due("LOOK", desk.look(11, 2), 54);
        Check.dueRow("relations", desk::relations, 9, 0, 10, 18, 0);
        Check.dueRow("conflicts", k -> desk.conflicts(), 0);
    }
}
