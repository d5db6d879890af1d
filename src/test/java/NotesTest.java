/** Promises 28 to 32: notes, strikes, by how many one knows, what is missing, what to ask. */
public final class NotesTest {
    /** Of 24 notes at most. */
    private static final int MOST = 24;

    public static void main(String[] args) {
        notes();
        wrongNotes();
        strikes();
        knowns();
        missings();
        missingsByStrikes();
        missingsByKnown();
        missingsOfShort();
        missingsOfSeven();
        asks();
        asksOfNone();
        wrongAsks();
        asksOfNoTokens();
        Check.end();
    }

    private static void notes() {
        LalrDesk desk = Check.told(StatesTest.HANGING);
        int[][] rows = {{0, 0}, {1, 0}, {1, 2}, {2, 22}, {3, 222}, {4, 2222}, {4, 0}, {4, 1020}, {2, 1}, {2, 1}};
        for (int k = 0; k < rows.length; k++) {
            Check.due("note", desk.note(rows[k][0], rows[k][1], k % 2 == 0), k);
            Check.due("NOTES", desk.count(11), k + 1);
        }
        for (int k = rows.length; k < MOST; k++) {
            Check.due("note", desk.note(0, 0, true), k);
        }
        Check.due("a 25th note", desk.note(0, 0, true), Check.NONE);
        Check.due("a 25th one", desk.strike(0), Check.NONE);
        Check.due("NOTES", desk.count(11), MOST);
    }

    private static void wrongNotes() {
        LalrDesk desk = Check.told(StatesTest.HANGING);
        int[][] rows = {{0, 1}, {0, -1}, {1, 3}, {1, -1}, {1, 10}, {1, 9}, {2, 3}, {2, 30}, {2, 100}, {3, 300}, {3, 1000},
            {4, 3000}, {4, 10000}, {4, 22223}, {5, 0}, {5, 22222}, {-1, 0}, {4, Integer.MAX_VALUE}, {4, Integer.MIN_VALUE},
            {Integer.MAX_VALUE, 0}, {Integer.MIN_VALUE, 0}, {1, Integer.MIN_VALUE}};
        for (int[] row : rows) {
            Check.due("note(" + row[0] + ", " + row[1] + ")", desk.note(row[0], row[1], true), Check.NONE);
        }
        Check.due("NOTES", desk.count(11), 0);
        LalrDesk none = new LalrDesk();
        Check.due("the empty row", none.note(0, 0, false), 0);
        Check.due("note(1, 0)", none.note(1, 0, false), Check.NONE);
        LalrDesk seven = Check.told("token a;token b;token c;token d;token e;token f;token g;");
        Check.due("note(4, 6666)", seven.note(4, 6666, false), 0);
        Check.due("note(4, 6667)", seven.note(4, 6667, false), Check.NONE);
        Check.due("note(4, 7666)", seven.note(4, 7666, false), Check.NONE);
    }

    private static void strikes() {
        LalrDesk desk = Check.told(StatesTest.HANGING);
        Check.due("strike of none", desk.strike(0), Check.NONE);
        Check.due("note", desk.note(1, 2, true), 0);
        Check.due("strike", desk.strike(0), 1);
        Check.due("strike of a STRIKE", desk.strike(1), 2);
        Check.due("strike once more", desk.strike(0), 3);
        Check.due("strike of itself", desk.strike(4), Check.NONE);
        for (int k : Check.WRONG) {
            Check.due("strike(" + k + ")", desk.strike(k), Check.NONE);
        }
        Check.due("NOTES and STRIKES", desk.count(11), 4);
        for (int k = 4; k < MOST; k++) {
            Check.due("strike", desk.strike(k - 1), k);
        }
        Check.due("a 25th one", desk.strike(0), Check.NONE);
        Check.due("a 25th note", desk.note(0, 0, true), Check.NONE);
    }

    private static void knowns() {
        LalrDesk desk = Check.told(StatesTest.HANGING);
        Check.due("known(0)", desk.known(0), true);
        Check.due("known(1)", desk.known(1), false);
        Check.due("known(-1)", desk.known(-1), true);
        Check.due("known(-2)", desk.known(-2), false);
        desk.note(0, 0, true);
        desk.strike(0);
        Check.due("by all", desk.count(12), 2);
        Check.due("known(2)", desk.known(2), true);
        desk.note(0, 0, true);
        Check.due("by two", desk.count(12), 2);
        for (int k : new int[] {-2, 4, Integer.MAX_VALUE, Integer.MIN_VALUE}) {
            Check.due("known(" + k + ")", desk.known(k), false);
            Check.due("by two yet", desk.count(12), 2);
        }
        Check.due("known(3)", desk.known(3), true);
        Check.due("by three", desk.count(12), 3);
        Check.due("known(0)", desk.known(0), true);
        Check.due("by none", desk.count(12), 0);
        Check.due("known(-1)", desk.known(-1), true);
        desk.note(0, 0, true);
        Check.due("by all, also those to come", desk.count(12), 4);
    }

    private static void missings() {
        // o by RULE 2; i o by RULE 0, too; i o l o by RULE 1, too
        LalrDesk desk = Check.told(StatesTest.HANGING);
        Check.due("at first", desk.missing(), 7);
        desk.note(1, 2, true);
        Check.due("o is", desk.missing(), 3);
        desk.note(4, 212, false);
        Check.due("i o l o isn't", desk.missing(), 2);
        desk.note(2, 2, true);
        Check.due("i o is", desk.missing(), 2);
        desk.note(2, 22, true);
        Check.due("o o is", desk.missing(), 0);
        LalrDesk other = Check.told(StatesTest.HANGING);
        other.note(1, 2, false);
        Check.due("o isn't", other.missing(), 4);
        // no RULES are MISSING where there are none
        Check.due("without RULES", Check.told("token a;kind e;").missing(), 0);
        Check.due("without a text", new LalrDesk().missing(), 0);
        // ranks stay: without o, too, m n p is none, for neither m nor p goes first
        String marks = "token n;token p;token m;token o;kind e;rule e e p;rule e m e;rule e n;rule e o;";
        LalrDesk ranked = Check.told(marks + "rank p 1 2;rank m 1 2;");
        ranked.note(3, 201, false);
        Check.due("m n p isn't", ranked.missing(), 15);
        LalrDesk plain = Check.told(marks);
        plain.note(3, 201, false);
        Check.due("m n p isn't", plain.missing(), 7);
    }

    private static void missingsByStrikes() {
        LalrDesk desk = Check.told(StatesTest.HANGING);
        desk.note(1, 2, true);
        desk.note(2, 2, true);
        Check.due("o and i o are", desk.missing(), 2);
        Check.due("strike", desk.strike(1), 2);
        Check.due("o is", desk.missing(), 3);
        Check.due("strike", desk.strike(2), 3);
        Check.due("o and i o are", desk.missing(), 2);
        Check.due("strike", desk.strike(3), 4);
        Check.due("o is", desk.missing(), 3);
        Check.due("strike", desk.strike(0), 5);
        Check.due("nothing", desk.missing(), 7);
        Check.due("strike", desk.strike(5), 6);
        Check.due("strike once more", desk.strike(0), 7);
        Check.due("one of two STRIKES counts yet", desk.missing(), 7);
    }

    private static void missingsByKnown() {
        LalrDesk desk = Check.told(StatesTest.HANGING);
        desk.note(1, 2, true);
        desk.note(2, 2, true);
        desk.strike(0);
        desk.strike(2);
        // by three the o is STRUCK, but i o, too, is a SENTENCE without RULE 1 alone
        int[] due = {7, 3, 2, 2, 2};
        for (int n = 0; n < due.length; n++) {
            Check.due("known", desk.known(n), true);
            Check.due("missing by " + n, desk.missing(), due[n]);
        }
        LalrDesk other = Check.told(StatesTest.HANGING);
        other.note(2, 2, true);
        other.strike(0);
        Check.due("known", other.known(1), true);
        Check.due("a STRIKE to come doesn't count", other.missing(), 2);
        Check.due("known", other.known(2), true);
        Check.due("it does now", other.missing(), 7);
        Check.due("known", other.known(-1), true);
        other.strike(1);
        Check.due("by all to come", other.missing(), 2);
    }

    private static void missingsOfShort() {
        LalrDesk desk = Check.told("token a;kind s;rule s;rule s s a;");
        desk.note(0, 0, true);
        Check.due("of nothing", desk.missing(), 2);
        desk.note(4, 0, true);
        Check.due("a a a a", desk.missing(), 0);
        desk.strike(1);
        desk.note(4, 0, false);
        Check.due("a a a a", desk.missing(), 2);
        desk.strike(0);
        desk.note(0, 0, false);
        Check.due("of nothing", desk.missing(), 1);
    }

    /** Rows of the first and of the last TOKENS, of all lengths, are all told from one another. */
    private static void missingsOfSeven() {
        StringBuilder text = new StringBuilder();
        for (char token = 'a'; token <= 'g'; token++) {
            text.append("token ").append(token).append(';');
        }
        text.append("kind s;rule s;rule s a;rule s g;rule s a a;rule s g g;rule s a a a;rule s g g g;rule s a a a a;"
            + "rule s g g g g;");
        int[][] rows = {{0, 0}, {1, 0}, {1, 6}, {2, 0}, {2, 66}, {3, 0}, {3, 666}, {4, 0}, {4, 6666}};
        LalrDesk desk = Check.told(text.toString());
        for (int rule = 0; rule < rows.length; rule++) {
            int is = desk.note(rows[rule][0], rows[rule][1], true);
            Check.due("missing", desk.missing(), (1 << rows.length) - 1 - (1 << rule));
            Check.due("strike", desk.strike(is), is + 1);
        }
        LalrDesk other = Check.told(text.toString());
        for (int rule = 0; rule < 8; rule++) {
            int isnt = other.note(rows[rule][0], rows[rule][1], false);
            Check.due("missing", other.missing(), 1 << rule);
            Check.due("strike", other.strike(isnt), isnt + 1);
        }
    }

    private static void asks() {
        LalrDesk desk = Check.told(StatesTest.HANGING);
        // of all three o is one without 0 and 1, not without 2; i o and o o o and so on
        Check.due("ask(1, 0)", desk.ask(1, 0), 2);
        Check.due("ask(1, 1)", desk.ask(1, 1), 2);
        Check.due("ask(2, 0)", desk.ask(2, 0), 2);
        Check.due("ask(2, 1)", desk.ask(2, 1), 2);
        Check.due("ask(3, 0)", desk.ask(3, 0), 2);
        desk.note(1, 2, true);
        Check.due("ask(1, 0)", desk.ask(1, 0), 0);
        Check.due("ask(1, 1)", desk.ask(1, 1), 2);
        Check.due("ask(2, 0)", desk.ask(2, 0), 2);
        Check.due("ask(2, 1)", desk.ask(2, 1), 1);
        Check.due("ask(3, 0)", desk.ask(3, 0), 2);
        Check.due("ask(3, 1)", desk.ask(3, 1), 1);
        desk.note(2, 2, false);
        Check.due("ask(1, 0)", desk.ask(1, 0), 0);
        Check.due("one is left", desk.ask(1, 1), 1);
        // of several the first by TOKENS: a b c splits as b c a does
        LalrDesk order = Check.told("token a;token b;token c;kind s;rule s c b;rule s b c;rule s c a;rule s b a;");
        Check.due("ask(2, 0)", order.ask(2, 0), 10);
        Check.due("ask(2, 1)", order.ask(2, 1), 3);
        Check.due("ask(3, 0)", order.ask(3, 0), 0);
        Check.due("ask(3, 1)", order.ask(3, 1), 4);
    }

    private static void asksOfNone() {
        LalrDesk desk = Check.told(StatesTest.HANGING);
        desk.note(0, 0, true);
        Check.due("missing", desk.missing(), 0);
        for (int length = 1; length <= 3; length++) {
            Check.due("ask(" + length + ", 0)", desk.ask(length, 0), 0);
            Check.due("ask(" + length + ", 1)", desk.ask(length, 1), 0);
        }
        desk.known(0);
        Check.due("by KNOWN", desk.ask(1, 1), 2);
        LalrDesk without = Check.told("token a;");
        Check.due("ask(3, 0)", without.ask(3, 0), 0);
        Check.due("ask(3, 1)", without.ask(3, 1), 0);
    }

    private static void wrongAsks() {
        LalrDesk desk = Check.told(StatesTest.HANGING);
        for (int k : Check.WRONG) {
            Check.due("ask(" + k + ", 0)", desk.ask(k, 0), Check.NONE);
            Check.due("ask(1, " + k + ")", desk.ask(1, k), Check.NONE);
        }
        Check.due("ask(0, 0)", desk.ask(0, 0), Check.NONE);
        Check.due("ask(4, 0)", desk.ask(4, 0), Check.NONE);
        Check.due("ask(1, 2)", desk.ask(1, 2), Check.NONE);
    }

    private static void asksOfNoTokens() {
        for (LalrDesk desk : new LalrDesk[] {new LalrDesk(), Check.told("kind s;rule s;")}) {
            Check.due("ask(1, 0)", desk.ask(1, 0), Check.NOTHING);
            Check.due("ask(3, 1)", desk.ask(3, 1), Check.NOTHING);
            Check.due("ask(0, 0)", desk.ask(0, 0), Check.NONE);
            Check.due("ask(4, 0)", desk.ask(4, 0), Check.NONE);
            Check.due("ask(1, 2)", desk.ask(1, 2), Check.NONE);
        }
    }
}
