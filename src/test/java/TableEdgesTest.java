/** Terms 2 and promises 9 to 17 and 34: the boundaries that their sentences name. */
public final class TableEdgesTest {
    private static final int[] FAR = {-2, -1000, 49, 100, Integer.MAX_VALUE, Integer.MIN_VALUE};
    private static final String SEVEN = "token a;token b;token c;token d;token e;token f;token g;";
    /** Each KIND is a part of the one ahead of it: from STATE 0 one MOVES by all five, then by g, f, e, d. START RULE is 5. */
    private static final String WIDE = SEVEN + "kind s;kind t;kind u;kind v;kind w;"
        + "rule s w g;rule w v f;rule v u e;rule u t d;rule t c;";

    public static void main(String[] args) {
        lastOfMostStates();
        packedMostStates();
        noSuchStates();
        noSuchSecondNumbers();
        greatestSymbols();
        orderOfStates();
        sameKernel();
        closedThroughAllKinds();
        kindsWithoutRules();
        items();
        lookOfItself();
        lookOfStartRule();
        afterOfStart();
        afterByReads();
        ranksFromOneToNine();
        sideIsOfTheToken();
        ranksOfOneAlone();
        acceptGoesFirst();
        conflictNumbers();
        pairsCountOnce();
        pairsOfAMoveItself();
        ringsOfTwoAtLeast();
        lookbacksOfNoSymbols();
        triedWithMostStates();
        triedWithMostStatesOfAKind();
        triedAsItIs();
        triedWithoutTheLastRule();
        noSuchTrials();
        Check.end();
    }

    /** "2 at the length, if there would be more than 48 STATES": 48 there are, 0 .. 47. */
    private static void lastOfMostStates() {
        LalrDesk desk = Check.told(TextTest.grammarOfStates(48));
        // t: e b b b, its DOT at the end: behind a e b b b, and then a comes
        Check.dueRow("state(47, ..)", what -> desk.state(47, what), 1, 1, 1, 5, 1, Check.NONE);
        Check.dueRow("item(47, ..)", k -> desk.item(47, k), 114, Check.NOTHING);
        Check.dueRow("move(47, ..)", k -> desk.move(47, k), -2, -2, -2, -2, -2, -2, -2, -1, -1, -1, -2, -2, -1);
        Check.dueRow("action(47, ..)", k -> desk.action(47, k), 2011, 0, 0, 0, 0, 0, 0, 0, Check.NONE);
        Check.due("look(47, 11)", desk.look(47, 11), 1);
        Check.due("look(47, 10)", desk.look(47, 10), Check.NOTHING);
        Check.due("look(47, 12)", desk.look(47, 12), Check.NOTHING);
        Check.dueRow("after(47, ..)", k -> desk.after(47, k), Check.NOTHING, Check.NOTHING, Check.NONE);
        Check.dueRow("witness(47, ..)", k -> desk.witness(47, k), 0, 4, 1, 1, 1, Check.NOTHING);
        Check.due("the MOVE to it", desk.move(37, 1), 47);
        Check.due("SHIFT to it", desk.action(37, 1), 1047);
        Check.due("START RULE", desk.look(8, 12), 128);
        Check.dueRow("relations", desk::relations, 2, 0, 0, 12, 0);
        Check.dueRow("count", desk::count, 7, 2, 12, 48, 60, 47, 58);
    }

    /** "those with most ACTIONS first, of several the least": so all PLACES up to 57 are taken. */
    private static void packedMostStates() {
        LalrDesk desk = Check.told(TextTest.grammarOfStates(48));
        int[] due = {0, 7, 12, 13, 14, 15, 16, 17, 11, 18, 19, 20, 21, 22, 24, 25, 26, 27, 28, 29, 30, 30, 31, 32, 33, 34, 36,
            37, 38, 39, 40, 41, 42, 43, 44, 44, 45, 46, 41, 42, 43, 44, 45, 46, 47, 55, 56, 57, Check.NONE};
        Check.dueRow("offset", desk::offset, due);
        Check.due("the last PLACE and one", desk.count(10), 58);
        Check.dueRow("packed(57, ..)", what -> desk.packed(57, what), 2011, 47);
        Check.dueRow("packed(58, ..)", what -> desk.packed(58, what), Check.NOTHING, Check.NOTHING);
    }

    /** "NONE: no such STATE", whatever the other number is. */
    private static void noSuchStates() {
        for (LalrDesk desk : new LalrDesk[] {Check.told(TextTest.grammarOfStates(48)), Check.told("token a;kind s;"),
            Check.told("token a;"), new LalrDesk()}) {
            for (int state : new int[] {-1, desk.count(3), desk.count(3) + 1, 48, Integer.MAX_VALUE, Integer.MIN_VALUE}) {
                for (int k : new int[] {-1, 0, 1, 60}) {
                    Check.due("state", desk.state(state, k), Check.NONE);
                    Check.due("item", desk.item(state, k), Check.NONE);
                    Check.due("move", desk.move(state, k), Check.NONE);
                    Check.due("action", desk.action(state, k), Check.NONE);
                    Check.due("look", desk.look(state, k), Check.NONE);
                    Check.due("after", desk.after(state, k), Check.NONE);
                    Check.due("witness", desk.witness(state, k), Check.NONE);
                }
                Check.due("offset", desk.offset(state), Check.NONE);
            }
        }
    }

    /** "NONE: no such ones": a SYMBOL, a TERMINAL, a RULE, a KIND, a what that there is not. */
    private static void noSuchSecondNumbers() {
        LalrDesk desk = Check.told("token a;token b;kind s;kind t;rule s t a;rule t b;rule t;");
        for (int far : FAR) {
            Check.due("state(0, " + far + ")", desk.state(0, far), Check.NONE);
            Check.due("move(0, " + far + ")", desk.move(0, far), Check.NONE);
            Check.due("action(0, " + far + ")", desk.action(0, far), Check.NONE);
            Check.due("look(0, " + far + ")", desk.look(0, far), Check.NONE);
            Check.due("after(0, " + far + ")", desk.after(0, far), Check.NONE);
            Check.due("relations(" + far + ")", desk.relations(far), Check.NONE);
        }
        Check.dueRow("state", k -> desk.state(0, k - 1), -1, 1, 4, -2, 0, 2, -1);
        Check.dueRow("move", k -> desk.move(0, k - 1), -1, -2, 1, -1, -1, -1, -1, -1, -1, -1, -1, 2, 3, -1, -1, -1, -1);
        Check.dueRow("action", k -> desk.action(0, k - 1), -1, 2002, 1001, 0, -1);
        Check.dueRow("look", k -> desk.look(0, k - 1), -1, -2, -2, 1, -2, -1);
        Check.dueRow("after", k -> desk.after(0, k - 1), -1, 4, 1, -1);
        Check.dueRow("relations", k -> desk.relations(k - 1), -1, 2, 0, 0, 3, 0, -1);
    }

    /** "A SYMBOL's number: of a TOKEN its own, of a KIND 10 more than its own. A TERMINAL: a TOKEN, or END". */
    private static void greatestSymbols() {
        LalrDesk desk = Check.told(WIDE);
        Check.dueRow("move", k -> desk.move(0, k), -2, -2, 1, -2, -2, -2, -2, -1, -1, -1, 2, 3, 4, 5, 6, -1);
        Check.dueRow("by which", k -> desk.state(k, 2), -2, 2, 10, 11, 12, 13, 14, 3, 4, 5, 6, Check.NONE);
        Check.due("by g", desk.move(6, 6), 10);
        Check.due("SHIFT", desk.action(6, 6), 1010);
        Check.dueRow("action(10, ..)", k -> desk.action(10, k), 0, 0, 0, 0, 0, 0, 0, 2000, Check.NONE);
        Check.due("ACCEPT", desk.action(2, 7), 3000);
        Check.due("LOOK of s", desk.look(10, 0), 128);
        Check.due("LOOK of START RULE", desk.look(2, 5), 128);
        Check.dueRow("after(0, ..)", k -> desk.after(0, k), 128, 8, 16, 32, 64, Check.NONE);
        Check.due("no MOVE", desk.after(1, 4), Check.NOTHING);
        Check.dueRow("SHORTEST of w", k -> desk.shortest(4, k), 2, 3, 4, 5, Check.NOTHING);
        Check.due("no such KIND", desk.shortest(5, 0), Check.NONE);
        Check.dueRow("witness(6, ..)", k -> desk.witness(6, k), 2, 3, 4, 5, Check.NOTHING);
        Check.dueRow("relations", desk::relations, 5, 0, 0, 5, 0);
    }

    /** "From each STATE, by numbers, by each SYMBOL (TOKENS by numbers, then KINDS) .. a new one has the next number." */
    private static void orderOfStates() {
        LalrDesk desk = Check.told("kind s;kind t;kind u;token a;token b;rule s u t b;rule s t a;rule t b;rule u;");
        Check.dueRow("from 0", k -> desk.move(0, k), -2, 1, -1, -1, -1, -1, -1, -1, -1, -1, 2, 3, 4);
        Check.due("from 3 by a", desk.move(3, 0), 5);
        Check.due("from 4 by b to 1 again", desk.move(4, 1), 1);
        Check.due("from 4 by t", desk.move(4, 11), 6);
        Check.due("from 6 by b", desk.move(6, 1), 7);
        Check.due("STATES", desk.count(3), 8);
        Check.dueRow("by which", k -> desk.state(k, 2), -2, 1, 10, 11, 12, 0, 11, 1, Check.NONE);
    }

    /** "one with the same KERNEL is the same": from other STATES, from the same by other SYMBOLS not, from itself. */
    private static void sameKernel() {
        LalrDesk desk = Check.told("token a;token b;kind s;rule s a s;rule s b s;rule s;");
        Check.due("STATES", desk.count(3), 6);
        for (int from : new int[] {1, 2}) {
            Check.due("by a", desk.move(from, 0), 1);
            Check.due("by b", desk.move(from, 1), 2);
        }
        Check.due("MOVES", desk.count(5), 9);
        // the same ITEMS, but by a KIND and by a TOKEN to two STATES, for their KERNELS are not the same
        LalrDesk other = Check.told("token a;kind s;kind t;rule s t s;rule s a s;rule s;rule t;");
        Check.due("not the same", other.move(0, 0) != other.move(0, 11), true);
    }

    /** "CLOSED: with an ITEM whose SYMBOL behind the DOT is a KIND all ITEMS of its RULES": from one of five to the next. */
    private static void closedThroughAllKinds() {
        LalrDesk down = Check.told("token a;token b;kind s;kind t;kind u;kind v;kind w;rule s a w;rule w v;rule v u;rule u t;"
            + "rule t s;rule s b;");
        int behind = down.move(0, 0);
        Check.dueRow("behind a", what -> down.state(behind, what), 1, 7, 0, 1, 2);
        Check.due("b", down.move(behind, 1), down.move(0, 1));
        Check.due("STATE 0", down.state(0, 1), 3);
        Check.due("a a b", down.sentences(3), 1);
        LalrDesk up = Check.told("token a;token b;kind s;kind t;kind u;kind v;kind w;rule s a t;rule t u;rule u v;rule v w;"
            + "rule w s;rule s b;");
        Check.due("behind a", up.state(up.move(0, 0), 1), 7);
        // each of them tried as START
        for (int kind = 0; kind < 5; kind++) {
            Check.due("tried(3, " + kind + ")", down.tried(3, kind), 0);
            Check.due("EMPTY", down.kind(kind, 0), 0);
            Check.due("FIRST", down.kind(kind, 1), 3);
        }
    }

    /** "START RULE .. stands for START alone"; "Without KINDS there are no STATES": with one there are two. */
    private static void kindsWithoutRules() {
        for (String text : new String[] {"kind s;", "token a;kind s;", "token a;kind s;kind t;rule t a;rule t s;"}) {
            LalrDesk desk = Check.told(text);
            int end = desk.count(0);
            int startRule = desk.count(2);
            Check.due("STATES", desk.count(3), 2);
            Check.due("STATE 0", desk.item(0, 0), 10 * startRule);
            Check.due("STATE 1", desk.item(1, 0), 10 * startRule + 1);
            Check.dueRow("state(0, ..)", k -> desk.state(0, k), 1, 1, -2, 0, 0);
            // s has no SHORTEST, so there is none to where one MOVES by it
            Check.dueRow("state(1, ..)", k -> desk.state(1, k), 1, 1, 10, -2, 1);
            Check.due("ACCEPT", desk.action(1, end), 3000);
            Check.due("nothing", desk.action(0, end), 0);
            Check.due("LOOK", desk.look(1, startRule), 1 << end);
            Check.due("AFTER", desk.after(0, 0), 1 << end);
            Check.dueRow("relations", desk::relations, 1, 0, 0, 0, 0);
            Check.dueRow("offset", desk::offset, 0, 0, Check.NONE);
        }
    }

    /** "-2: there are no so many; NONE: no such STATE, k is below 0." */
    private static void items() {
        LalrDesk desk = Check.told("token a;kind s;rule s s s s s;rule s a;");
        int[][] due = {{20}, {11}, {1, 21}, {1, 2}, {1, 2, 3}, {1, 2, 3, 4}};
        for (int state = 0; state < due.length; state++) {
            Check.due("KERNEL", desk.state(state, 0), due[state].length);
            for (int k = 0; k < due[state].length; k++) {
                Check.due("item(" + state + ", " + k + ")", desk.item(state, k), due[state][k]);
            }
            for (int k : new int[] {due[state].length, due[state].length + 1, 62, 64, Integer.MAX_VALUE}) {
                Check.due("item(" + state + ", " + k + ")", desk.item(state, k), Check.NOTHING);
            }
            Check.due("item(" + state + ", -1)", desk.item(state, -1), Check.NONE);
            Check.due("item(" + state + ", MIN)", desk.item(state, Integer.MIN_VALUE), Check.NONE);
        }
        Check.due("STATES", desk.count(3), due.length);
    }

    /** "if the KIND is behind the DOT of another ITEM (or of it)": a comes behind s by s: s a itself alone. */
    private static void lookOfItself() {
        LalrDesk desk = Check.told("token a;token b;kind s;kind t;rule s t;rule t t a;rule t b;");
        int whole = desk.move(desk.move(0, 11), 0);
        Check.due("t a", desk.look(whole, 1), 1 + 4);
        Check.due("b", desk.look(desk.move(0, 1), 2), 1 + 4);
        Check.due("t alone", desk.look(desk.move(0, 11), 0), 4);
        // all that is behind t there is EMPTY: all BEHIND of that one, which is it itself
        LalrDesk empty = Check.told("token a;kind s;kind k;rule s s k k;rule s a;rule k;");
        Check.due("s k k", empty.look(empty.move(empty.move(empty.move(0, 10), 11), 11), 0), 2);
    }

    /** "LOOK (bits) of a RULE (START RULE, too)"; "of START RULE with DOT 0 in STATE 0 END is in it". */
    private static void lookOfStartRule() {
        LalrDesk desk = Check.told("token a;kind s;rule s s a;rule s;");
        Check.due("START RULE", desk.look(desk.move(0, 10), 2), 2);
        Check.due("START RULE in STATE 0", desk.look(0, 2), Check.NOTHING);
        Check.due("more than START RULE", desk.look(desk.move(0, 10), 3), Check.NONE);
        Check.due("below 0", desk.look(desk.move(0, 10), -1), Check.NONE);
        // s without SYMBOLS has its DOT at the end in STATE 0
        Check.due("of no SYMBOLS", desk.look(0, 1), 1 + 2);
        // t stands for no row at all, and what can stand behind it is told all the same
        LalrDesk none = Check.told("token a;token b;kind s;kind t;rule s t;rule t t a;");
        Check.due("t a", none.look(none.move(none.move(0, 11), 0), 1), 1 + 4);
    }

    /** "(END as well, if it is START's from STATE 0)": not from elsewhere. */
    private static void afterOfStart() {
        LalrDesk desk = Check.told("token a;token b;kind s;rule s a s b;rule s a;");
        Check.dueRow("after(.., 0)", state -> desk.after(state, 0), 4, 2, -2, -2, -2, -1);
        LalrDesk itself = Check.told("token a;token b;kind s;rule s a s;rule s b;");
        Check.dueRow("after(.., 0)", state -> itself.after(state, 0), 4, 4, -2, -2, -2, -1);
    }

    /** "all of what it READS": of the first KIND, too, and of the last one. */
    private static void afterByReads() {
        LalrDesk desk = Check.told("token a;token b;kind s;kind x;rule s x s b;rule s;rule x a;");
        Check.due("AFTER x", desk.after(0, 1), 1 + 2);
        Check.dueRow("relations", desk::relations, 4, 2, 0, 6, 0);
        LalrDesk five = Check.told("token a;token b;token c;kind s;kind t;kind u;kind v;kind w;rule s t u v w;rule s c;rule t a;"
            + "rule u;rule v;rule w;rule w b;");
        // one READS the other: all that can come is b, and END by what t INCLUDES
        Check.dueRow("from STATE 0", kind -> five.after(0, kind), 8, 2 + 8, -2, -2, -2, -1);
        int behind = five.move(0, 11);
        Check.dueRow("behind t", kind -> five.after(behind, kind), -2, -2, 2 + 8, -2, -2, -1);
        Check.dueRow("relations", five::relations, 5, 3, 4, 7, 0);
    }

    private static LalrDesk hanging(int ranked, int rank, int side) {
        return Check.told(StatesTest.HANGING + "rank i " + ranked + " 1;rank l " + rank + " " + side + ";");
    }

    /** "the greater RANK goes (no CONFLICT by that); of alike ones by SIDE": RULE 0 has the RANK of i; l is to SHIFT. */
    private static void ranksFromOneToNine() {
        int[] alike = {2000, 1005, 0};
        for (int ranked = 1; ranked <= 9; ranked++) {
            for (int rank = 1; rank <= 9; rank++) {
                int side = (ranked + rank) % 3;
                LalrDesk desk = hanging(ranked, rank, side);
                int due = ranked > rank ? 2000 : ranked < rank ? 1005 : alike[side];
                Check.due("RANKS " + ranked + " and " + rank, desk.action(4, 1), due);
                Check.due("CONFLICTS", desk.conflicts(), 0);
                Check.due("conflict(0, 0)", desk.conflict(0, 0), Check.NONE);
                Check.due("at END", desk.action(4, 3), 2000);
                Check.due("ACTIONS", desk.state(4, 4), due == 0 ? 1 : 2);
            }
        }
    }

    /** "of alike ones by SIDE of the TOKEN": not by that of the RULE's TOKEN, which is right here. */
    private static void sideIsOfTheToken() {
        for (int rank : new int[] {1, 9}) {
            Check.due("left", hanging(rank, rank, 0).action(4, 1), 2000);
            Check.due("right", hanging(rank, rank, 1).action(4, 1), 1005);
            Check.due("none", hanging(rank, rank, 2).action(4, 1), 0);
        }
    }

    /** "if not both have one: SHIFT, and that REDUCE is a CONFLICT." */
    private static void ranksOfOneAlone() {
        for (String ranks : new String[] {"", "rank i 1 0;", "rank i 9 2;", "rank l 1 0;", "rank l 9 2;", "rank o 9 0;",
            "rank o 9 0;rank i 1 0;", "rank o 9 0;rank l 1 0;"}) {
            LalrDesk desk = Check.told(StatesTest.HANGING + ranks);
            Check.due("ACTION with " + ranks, desk.action(4, 1), 1005);
            Check.due("CONFLICTS with " + ranks, desk.conflicts(), 1);
            Check.dueRow("CONFLICT", what -> desk.conflict(0, what), 4, 1, 1005, 0, Check.NONE);
        }
    }

    /** "Of several: ACCEPT, .. each other REDUCE (all of them behind ACCEPT) is a CONFLICT": ranks are of no use there. */
    private static void acceptGoesFirst() {
        LalrDesk desk = Check.told("token a;kind s;kind t;rule t s;rule s s;rule s t;rule s a;rank a 9 0;");
        int whole = desk.move(0, 10);
        Check.due("ACCEPT", desk.action(whole, 1), 3000);
        Check.due("CONFLICTS", desk.conflicts(), 2);
        Check.dueRow("CONFLICT 0", what -> desk.conflict(0, what), whole, 1, 3000, 0, Check.NONE);
        Check.dueRow("CONFLICT 1", what -> desk.conflict(1, what), whole, 1, 3000, 1, Check.NONE);
        Check.dueRow("CONFLICT 2", what -> desk.conflict(2, what), -1, -1, -1, -1, -1);
    }

    /** "CONFLICTS are numbered by STATES, by TERMINALS, by the RULES left out." */
    private static void conflictNumbers() {
        // by a one comes to x and y, by b to y and z; each of c, END can be behind
        LalrDesk desk = Check.told("token a;token b;token c;kind s;kind x;kind y;kind z;rule s x;rule s y;rule s z;rule s s c;"
            + "rule x a;rule y a;rule z a;rule y b;rule z b;");
        int a = desk.move(0, 0);
        int b = desk.move(0, 1);
        int[][] due = {{a, 2, 2004, 5}, {a, 2, 2004, 6}, {a, 3, 2004, 5}, {a, 3, 2004, 6}, {b, 2, 2007, 8}, {b, 3, 2007, 8}};
        Check.due("CONFLICTS", desk.conflicts(), due.length);
        for (int k = 0; k < due.length; k++) {
            int asked = k;
            Check.dueRow("conflict(" + k + ", ..)", what -> desk.conflict(asked, what), due[k]);
            Check.due("conflict(" + k + ", 4)", desk.conflict(k, 4), Check.NONE);
            Check.due("conflict(" + k + ", -1)", desk.conflict(k, -1), Check.NONE);
        }
        for (int k : new int[] {-1, due.length, due.length + 1, Integer.MAX_VALUE, Integer.MIN_VALUE}) {
            for (int what = -1; what <= 4; what++) {
                Check.due("conflict(" + k + ", " + what + ")", desk.conflict(k, what), Check.NONE);
            }
        }
    }

    /** "pairs that READ, .. that INCLUDE": by two RULES of t the s behind b INCLUDES the same MOVE, which is one pair. */
    private static void pairsCountOnce() {
        LalrDesk desk = Check.told("token a;token b;kind s;kind t;kind n;rule s t;rule s a;rule t b s;rule t b s n;rule n;");
        Check.dueRow("relations", desk::relations, 5, 1, 6, 9, 1, Check.NONE);
    }

    /** "(a MOVE itself, too, of both)". */
    private static void pairsOfAMoveItself() {
        // k: k k, EMPTY: from the STATE behind k by k one MOVES to another one, k k; from there to the same one again
        LalrDesk desk = Check.told("token a;kind k;rule k k k;rule k;");
        // MOVES by k from 0, from 1 (behind k), from 2 (behind k k); that from 2 leads to 2
        Check.due("from 2", desk.move(2, 10), 2);
        // READS: 0-1, 1-2, 2-2; INCLUDES: k: k . k and k: . k k of each: 0-0, 1-0, 1-1, 2-1, 2-2
        Check.dueRow("relations", desk::relations, 3, 3, 5, 6, 0);
    }

    /** "RINGS: sets of two MOVES at least that INCLUDE one another by steps, largest such sets." */
    private static void ringsOfTwoAtLeast() {
        LalrDesk one = Check.told("token a;kind s;rule s a s;rule s;");
        // s behind a INCLUDES itself, which alone is no RING
        Check.dueRow("relations", one::relations, 2, 0, 2, 4, 0);
        LalrDesk two = Check.told("token a;kind s;kind t;rule s t;rule t s;rule s a;");
        Check.dueRow("relations", two::relations, 2, 0, 2, 3, 1);
        // t and u and, by v, s: all four hang together, though t and u alone would, too
        LalrDesk four = Check.told("token a;kind s;kind t;kind u;kind v;rule s t;rule t u;rule u t;rule u v;rule v s;rule s a;");
        Check.dueRow("relations", four::relations, 4, 0, 5, 6, 1);
        // s includes t, but not t s: no RING
        LalrDesk line = Check.told("token a;kind s;kind t;kind u;rule s t;rule t u;rule u a;");
        Check.dueRow("relations", line::relations, 3, 0, 2, 3, 0);
    }

    /** "(START RULE has none; of a RULE without SYMBOLS the STATE itself.)" */
    private static void lookbacksOfNoSymbols() {
        LalrDesk desk = Check.told("token a;kind s;kind k;rule s k a k;rule k;");
        Check.dueRow("relations", desk::relations, 3, 0, 1, 3, 0);
        Check.due("START RULE alone", Check.told("kind s;").relations(3), 0);
    }

    /** "A table tried that would have more than 48 STATES has none: -2": 45 with all RULES, without one 49, without another 48. */
    static final String LESS_IS_MORE = "token a;token b;token c;token d;token e;kind s;kind t;kind u;kind v;kind w;"
        + "rule t e a u c;rule u w u s c;rule u t u e c;rule s e v e c;rule t a a w e;rule w e c t;rule v e w;rule t a u w;"
        + "rule v u b a c;rule u c;rule w a a a t;";

    private static void triedWithMostStates() {
        LalrDesk desk = Check.told(LESS_IS_MORE);
        Check.due("STATES", desk.count(3), 45);
        for (int rule = 0; rule < 11; rule++) {
            Check.due("tried(2, " + rule + ")", desk.tried(2, rule) == Check.NOTHING, rule == 2);
        }
        Check.due("48 STATES", Check.told(LESS_IS_MORE.replace("rule t a u w;", "")).count(3), 48);
        LalrDesk other = new LalrDesk();
        Check.due("49 STATES", Check.tell(other, LESS_IS_MORE.replace("rule u t u e c;", "")), Check.NONE);
        Check.due("FAULT", other.fault(0), 2);
        Check.due("tried(2, 11)", desk.tried(2, 11), Check.NONE);
        Check.due("STATES", desk.count(3), 45);
        Check.due("tried(0, 0)", desk.tried(0, 0), desk.conflicts());
    }

    private static void triedWithMostStatesOfAKind() {
        for (int states = 48; states <= 49; states++) {
            LalrDesk desk = Check.told(TextTest.grammarOfStates(states).replace("kind s;", "kind q;kind s;"));
            Check.due("STATES", desk.count(3), 2);
            Check.due("tried(3, 0)", desk.tried(3, 0), 0);
            Check.due("tried(3, 1)", desk.tried(3, 1), states == 48 ? 0 : Check.NOTHING);
            Check.due("tried(3, 2)", desk.tried(3, 2), 0);
            Check.due("tried(3, 3)", desk.tried(3, 3), Check.NONE);
            Check.due("STATES", desk.count(3), 2);
        }
    }

    private static void triedAsItIs() {
        for (String text : new String[] {StatesTest.HANGING, WIDE, LESS_IS_MORE, TextTest.grammarOfStates(48), "", "token a;",
            "kind s;", "token a;kind s;rule s s s;rule s s;rule s a;rule s;rank a 1 2;"}) {
            LalrDesk desk = Check.told(text);
            Check.due("all SIDES right", desk.tried(1, 0), desk.conflicts());
            if (desk.count(1) > 0) {
                Check.due("START as told", desk.tried(3, 0), desk.conflicts());
            }
            if (!text.contains("rank")) {
                Check.due("without ranks", desk.tried(0, 0), desk.conflicts());
            }
        }
        LalrDesk ranked = Check.told(StatesTest.HANGING + "rank i 9 2;rank l 9 2;");
        Check.due("conflicts", ranked.conflicts(), 0);
        Check.due("without ranks", ranked.tried(0, 0), 1);
        Check.due("all SIDES right", ranked.tried(1, 0), 0);
        // by ranks of the other TOKENS, too, without a RULE and by FOLLOW
        Check.due("without RULE 2", ranked.tried(2, 2), 0);
        Check.due("by FOLLOW", ranked.tried(4, 0), 0);
    }

    private static void triedWithoutTheLastRule() {
        LalrDesk one = Check.told("token a;kind s;rule s;");
        Check.due("without RULES", one.tried(2, 0), 0);
        // of twelve RULES each is told from the others; rank and SIDE are of the last of seven TOKENS
        StringBuilder text = new StringBuilder(SEVEN + "kind s;kind t;kind u;kind v;kind w;rule s s g s;");
        for (char token = 'a'; token <= 'e'; token++) {
            text.append("rule s ").append(token).append(';');
        }
        text.append("rule t s;rule u t;rule v u;rule w v;rule w w w;rule w s s;");
        LalrDesk desk = Check.told(text.toString());
        Check.dueRow("tried(2, ..)", rule -> desk.tried(2, rule), 0, 1, 1, 1, 1, 1, 1, 1, 1, 1, 1, 1, Check.NONE);
        LalrDesk ranked = Check.told(text + "rank g 1 0;");
        Check.dueRow("tried(2, ..)", rule -> ranked.tried(2, rule), 0, 0, 0, 0, 0, 0, 0, 0, 0, 0, 0, 0, Check.NONE);
    }

    /** "NONE: no such ones (i 0 of 0, 1, 4; a RULE of 2, a KIND of 3)." */
    private static void noSuchTrials() {
        LalrDesk desk = Check.told("token a;kind s;kind t;rule s t;rule t a;rule t;");
        int[][] kinds = {{0, 1}, {0, 1}, {0, 3}, {0, 2}, {0, 1}};
        for (int what = -2; what <= 6; what++) {
            for (int i : new int[] {-2, -1, 0, 1, 2, 3, 4, 10, 11, Integer.MAX_VALUE, Integer.MIN_VALUE}) {
                boolean is = what >= 0 && what < 5 && i >= 0 && i < kinds[what][1];
                Check.due("tried(" + what + ", " + i + ")", desk.tried(what, i), is ? 0 : Check.NONE);
            }
        }
        Check.due("tried(MAX, 0)", desk.tried(Integer.MAX_VALUE, 0), Check.NONE);
        Check.due("tried(MIN, 0)", desk.tried(Integer.MIN_VALUE, 0), Check.NONE);
    }
}
