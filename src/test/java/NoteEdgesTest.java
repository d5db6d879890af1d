/** Promises 28 to 32 and what Terms 3 says of NOTES, MISSING and ASK: the boundaries that their sentences name. */
public final class NoteEdgesTest {
    private static final int MOST = 24;
    private static final int[] POWERS = {1, 10, 100, 1000, 10000};
    private static final String SEVEN = "token a;token b;token c;token d;token e;token f;token g;";

    public static void main(String[] args) {
        allRows();
        noSuchRows();
        rowsOfNoTokens();
        mostNotes();
        mostStrikes();
        theLastOfMostCounts();
        noSuchStrikes();
        noSuchKnown();
        knownByAllToCome();
        knownByTheFirst();
        strikesOfStrikes();
        strikesBehindTheKnown();
        missingOfNoNotes();
        missingOfAllLengths();
        missingOfNone();
        missingWithMostStates();
        missingByLook();
        missingOfMostRules();
        missingBySidesOfSeven();
        missingOfFewRules();
        missingOfWhatIsRead();
        asksOfSeven();
        asksTheFirstRow();
        asksOfNone();
        noSuchAsks();
        Check.end();
    }

    private static boolean isRow(int length, int row, int tokens) {
        if (length < 0 || length > 4 || row < 0 || row >= POWERS[length]) {
            return false;
        }
        for (int rest = row; rest > 0; rest /= 10) {
            if (rest % 10 >= tokens) {
                return false;
            }
        }
        // a row of no number but 0 is one of the first TOKEN alone, which must be there
        return length == 0 || tokens > 0;
    }

    /** "(its length 0 .. 4; its number: TOKENS as digits by ten, the first one highest)"; "(a digit that is no TOKEN, too)". */
    private static void allRows() {
        for (int tokens = 1; tokens <= 7; tokens += 3) {
            LalrDesk desk = null;
            int noted = MOST;
            int calls = 0;
            for (int length = 0; length <= 4; length++) {
                for (int row = -3; row < POWERS[length] + 12; row++) {
                    if (noted == MOST || calls > 480) {
                        desk = Check.told(SEVEN.substring(0, 8 * tokens));
                        noted = 0;
                        calls = 10;
                    }
                    boolean is = isRow(length, row, tokens);
                    Check.due("note(" + length + ", " + row + ")", desk.note(length, row, row % 2 == 0), is ? noted : Check.NONE);
                    noted += is ? 1 : 0;
                    calls++;
                }
            }
        }
    }

    private static void noSuchRows() {
        LalrDesk desk = Check.told(SEVEN + "kind s;");
        for (int length : new int[] {-1, -2, 5, 6, 10, Integer.MAX_VALUE, Integer.MIN_VALUE}) {
            for (int row : new int[] {0, 1, 66666, -1}) {
                Check.due("note(" + length + ", " + row + ")", desk.note(length, row, true), Check.NONE);
            }
        }
        for (int length = 0; length <= 4; length++) {
            for (int row : new int[] {-1, POWERS[length], Integer.MAX_VALUE, Integer.MIN_VALUE, Integer.MIN_VALUE + 1, 1000000000}) {
                Check.due("note(" + length + ", " + row + ")", desk.note(length, row, false), Check.NONE);
            }
        }
        Check.due("NOTES", desk.count(11), 0);
        Check.due("END is no TOKEN", desk.note(1, 7, true), Check.NONE);
        Check.due("the last TOKEN", desk.note(4, 6666, true), 0);
    }

    private static void rowsOfNoTokens() {
        for (LalrDesk desk : new LalrDesk[] {new LalrDesk(), Check.told("kind s;rule s;")}) {
            Check.due("a row of one", desk.note(1, 0, true), Check.NONE);
            Check.due("a row of four", desk.note(4, 0, true), Check.NONE);
            Check.due("no row of none", desk.note(0, 1, true), Check.NONE);
            Check.due("the row of none", desk.note(0, 0, true), 0);
        }
    }

    /** "NOTES (note), at most 24, numbered from 0 on"; "or there are 24 in all": STRIKES, too. */
    private static void mostNotes() {
        LalrDesk desk = Check.told(StatesTest.HANGING);
        for (int k = 0; k < MOST; k++) {
            Check.due("NOTES", desk.count(11), k);
            Check.due("note or strike", k % 3 == 2 ? desk.strike(k - 1) : desk.note(4, 2222, false), k);
        }
        for (int times = 0; times < 3; times++) {
            Check.due("a 25th note", desk.note(0, 0, true), Check.NONE);
            Check.due("a 25th strike", desk.strike(23), Check.NONE);
            Check.due("NOTES", desk.count(11), MOST);
            Check.due("KNOWN by all", desk.count(12), MOST);
        }
        Check.due("known(24)", desk.known(24), true);
        Check.due("known(25)", desk.known(25), false);
        Check.due("KNOWN by 24", desk.count(12), MOST);
        Check.due("text", Check.tell(desk, StatesTest.HANGING), 7);
        Check.due("a first one", desk.note(0, 0, true), 0);
    }

    private static void mostStrikes() {
        LalrDesk desk = Check.told(StatesTest.HANGING);
        Check.due("note", desk.note(1, 2, true), 0);
        for (int k = 1; k < MOST; k++) {
            Check.due("strike", desk.strike(0), k);
        }
        Check.due("a 25th", desk.strike(0), Check.NONE);
        Check.due("a 25th", desk.note(1, 2, true), Check.NONE);
        Check.due("by all it is STRUCK", desk.missing(), 7);
        desk.known(1);
        Check.due("by one it isn't", desk.missing(), 3);
    }

    /** Of no TOKENS there is no SENTENCE in these tables, whatever RULE is left out; by o there is one but by RULE 2. */
    private static void theLastOfMostCounts() {
        LalrDesk desk = Check.told(StatesTest.HANGING);
        for (int k = 0; k < MOST - 1; k++) {
            desk.note(0, 0, false);
        }
        Check.due("by 23", desk.missing(), 7);
        Check.due("the 24th note", desk.note(1, 2, true), MOST - 1);
        Check.due("by 24", desk.missing(), 3);
        desk.known(23);
        Check.due("known by 23", desk.missing(), 7);
        desk.known(24);
        Check.due("known by 24", desk.missing(), 3);
        LalrDesk other = Check.told(StatesTest.HANGING);
        for (int k = 0; k < MOST - 2; k++) {
            other.note(0, 0, false);
        }
        Check.due("the 23rd", other.note(1, 2, true), MOST - 2);
        Check.due("by 23", other.missing(), 3);
        Check.due("the 24th strikes it", other.strike(MOST - 2), MOST - 1);
        Check.due("by 24", other.missing(), 7);
        other.known(23);
        Check.due("known by 23", other.missing(), 3);
        other.known(-1);
        Check.due("known by all", other.missing(), 7);
    }

    /** "A STRIKE: its number; NONE: no such NOTE or STRIKE". */
    private static void noSuchStrikes() {
        LalrDesk desk = Check.told(StatesTest.HANGING);
        for (int noted = 0; noted <= 4; noted++) {
            for (int k : new int[] {-1, -2, noted, noted + 1, MOST - 1, MOST, Integer.MAX_VALUE, Integer.MIN_VALUE}) {
                Check.due("strike(" + k + ") of " + noted, desk.strike(k), Check.NONE);
            }
            Check.due("NOTES", desk.count(11), noted);
            Check.due("note or strike", noted % 2 == 0 ? desk.note(0, 0, true) : desk.strike(noted - 1), noted);
        }
        Check.due("strike of a STRIKE", desk.strike(3), 5);
        Check.due("strike once more", desk.strike(3), 6);
    }

    /** "true; false: no such n": and by as many as ahead then. */
    private static void noSuchKnown() {
        LalrDesk desk = Check.told(StatesTest.HANGING);
        for (int noted = 0; noted <= 3; noted++) {
            for (int n : new int[] {-2, -3, noted + 1, noted + 2, MOST, MOST + 1, Integer.MAX_VALUE, Integer.MIN_VALUE}) {
                Check.due("known(" + n + ") of " + noted, desk.known(n), n == -1);
                Check.due("by all as ahead", desk.count(12), noted);
            }
            desk.note(0, 0, false);
        }
        for (int n = 0; n <= 4; n++) {
            Check.due("known(" + n + ")", desk.known(n), true);
            Check.due("by so many", desk.count(12), n);
            Check.due("known(5)", desk.known(5), false);
            Check.due("by so many yet", desk.count(12), n);
        }
    }

    /** "(-1: by all, also those to come)". */
    private static void knownByAllToCome() {
        LalrDesk desk = Check.told(StatesTest.HANGING);
        Check.due("all at first", desk.missing(), 7);
        desk.note(1, 2, true);
        Check.due("all at first", desk.missing(), 3);
        Check.due("known(1), which are all", desk.known(1), true);
        desk.note(2, 2, true);
        Check.due("not that to come", desk.missing(), 3);
        Check.due("by one", desk.count(12), 1);
        Check.due("known(-1)", desk.known(-1), true);
        Check.due("both", desk.missing(), 2);
        desk.note(4, 212, true);
        Check.due("that to come, too", desk.missing(), 0);
        Check.due("by three", desk.count(12), 3);
        Check.due("known(0)", desk.known(0), true);
        Check.due("by none", desk.missing(), 7);
        Check.due("NOTES", desk.count(11), 3);
    }

    /** "KNOWN by n (all at first): the first n that aren't STRUCK by one of these". */
    private static void knownByTheFirst() {
        LalrDesk desk = Check.told(StatesTest.HANGING);
        desk.note(1, 2, false);
        desk.strike(0);
        desk.note(1, 2, true);
        desk.note(2, 2, true);
        desk.strike(2);
        desk.strike(4);
        int[] due = {7, 4, 7, 3, 2, 2, 2};
        for (int n = 0; n < due.length; n++) {
            Check.due("known(" + n + ")", desk.known(n), true);
            Check.due("missing by " + n, desk.missing(), due[n]);
        }
        // the first STRIKE is STRUCK, so that o isn't again; and o is, too
        desk.strike(1);
        desk.known(7);
        Check.due("o isn't, o is", desk.missing(), 0);
    }

    /** "(a STRIKE may be STRUCK: then it doesn't count; asked from the last one on)". */
    private static void strikesOfStrikes() {
        LalrDesk desk = Check.told(StatesTest.HANGING);
        desk.note(1, 2, true);
        for (int k = 1; k < MOST; k++) {
            Check.due("missing by " + k, desk.missing(), k % 2 == 1 ? 3 : 7);
            Check.due("strike", desk.strike(k - 1), k);
        }
        Check.due("missing by 24", desk.missing(), 7);
        for (int n = 1; n <= MOST; n++) {
            desk.known(n);
            Check.due("known by " + n, desk.missing(), n % 2 == 1 ? 3 : 7);
        }
        // of two STRIKES of one NOTE both must be STRUCK
        LalrDesk two = Check.told(StatesTest.HANGING);
        two.note(1, 2, true);
        two.strike(0);
        two.strike(0);
        two.strike(1);
        Check.due("the second one counts", two.missing(), 7);
        two.strike(2);
        Check.due("none counts", two.missing(), 3);
        two.strike(3);
        Check.due("the first one again", two.missing(), 7);
    }

    private static void strikesBehindTheKnown() {
        LalrDesk desk = Check.told(StatesTest.HANGING);
        desk.note(1, 2, true);
        desk.strike(0);
        desk.strike(1);
        int[] due = {7, 3, 7, 3};
        for (int n = 0; n < due.length; n++) {
            desk.known(n);
            Check.due("known by " + n, desk.missing(), due[n]);
        }
    }

    private static void missingOfNoNotes() {
        Check.due("of a new one", new LalrDesk().missing(), 0);
        Check.due("of TOKENS alone", Check.told("token a;").missing(), 0);
        Check.due("of a KIND alone", Check.told("kind s;").missing(), 0);
        Check.due("of one RULE", Check.told("kind s;rule s;").missing(), 1);
        LalrDesk desk = Check.told("token a;");
        desk.note(1, 0, false);
        Check.due("of no RULES", desk.missing(), 0);
    }

    /** Of each length 0 .. 4 one row, by the first TOKEN and by the last one of seven. */
    private static void missingOfAllLengths() {
        StringBuilder text = new StringBuilder(SEVEN + "kind s;rule s;");
        for (String row : new String[] {"a", "a a", "a a a", "a a a a", "g", "g g", "g g g", "g g g g"}) {
            text.append("rule s ").append(row).append(';');
        }
        int[] lengths = {0, 1, 2, 3, 4, 1, 2, 3, 4};
        int[] rows = {0, 0, 0, 0, 0, 6, 66, 666, 6666};
        for (int rule = 0; rule < rows.length; rule++) {
            LalrDesk desk = Check.told(text.toString());
            desk.note(lengths[rule], rows[rule], false);
            Check.due("isn't", desk.missing(), 1 << rule);
            LalrDesk other = Check.told(text.toString());
            other.note(lengths[rule], rows[rule], true);
            Check.due("is", other.missing(), 511 - (1 << rule));
        }
    }

    private static void missingOfNone() {
        LalrDesk desk = Check.told(StatesTest.HANGING);
        desk.note(1, 2, true);
        desk.note(1, 2, false);
        Check.due("is and isn't", desk.missing(), 0);
        desk.strike(0);
        Check.due("isn't", desk.missing(), 4);
        desk.strike(1);
        Check.due("nothing known", desk.missing(), 7);
    }

    /** "A table tried that would have more than 48 STATES has none: ..; by MISSING that RULE isn't." */
    private static void missingWithMostStates() {
        LalrDesk desk = Check.told(TableEdgesTest.LESS_IS_MORE);
        int all = (1 << 11) - 1 - (1 << 2);
        Check.due("without NOTES", desk.missing(), all);
        desk.note(0, 0, true);
        Check.due("of no TOKENS is", desk.missing(), 0);
        desk.strike(0);
        desk.note(0, 0, false);
        Check.due("of no TOKENS isn't", desk.missing(), all);
        // of a without more no table makes a SENTENCE, so that all ten are left
        Check.due("ask", desk.ask(1, 0), 0);
        Check.due("ask", desk.ask(1, 1), 10);
    }

    /** "the tables made without": by LOOK, as the others; by FOLLOW d would be REDUCED to x ahead of c, for its RANK. */
    private static void missingByLook() {
        LalrDesk desk = Check.told("token a;token b;token c;token d;kind s;kind x;rule s x a;rule s b x c;rule s d c;rule s b d a;"
            + "rule x d;rule s a a a;rank d 2 0;rank c 1 0;rank a 1 0;");
        desk.note(2, 32, true);
        Check.due("d c is", desk.missing(), 63 - 4);
        desk.note(3, 130, true);
        Check.due("b d a is, too", desk.missing(), 63 - 4 - 8);
        Check.due("by FOLLOW", desk.tried(4, 0), 0);
    }

    /** "RULES (bits)": of twelve all. */
    private static void missingOfMostRules() {
        StringBuilder text = new StringBuilder(SEVEN + "kind s;");
        int[] lengths = {1, 1, 1, 1, 1, 1, 1, 2, 2, 2, 2, 2};
        int[] rows = {0, 1, 2, 3, 4, 5, 6, 0, 6, 60, 66, 16};
        for (int rule = 0; rule < 12; rule++) {
            text.append("rule s");
            if (lengths[rule] == 2) {
                text.append(' ').append((char) ('a' + rows[rule] / 10));
            }
            text.append(' ').append((char) ('a' + rows[rule] % 10)).append(';');
        }
        LalrDesk desk = Check.told(text.toString());
        Check.due("all", desk.missing(), 4095);
        for (int rule = 0; rule < 12; rule++) {
            LalrDesk other = Check.told(text.toString());
            other.note(lengths[rule], rows[rule], false);
            Check.due("without " + rule, other.missing(), 1 << rule);
            Check.due("one is left whatever is asked", other.ask(lengths[rule], 1), 1);
        }
    }

    /** "(the others keep their numbers, ranks)": of m e p, of alike RANKS, neither goes first if p, the last of seven, says so. */
    private static void missingBySidesOfSeven() {
        for (int side = 0; side <= 2; side++) {
            LalrDesk desk = Check.told("token n;token o;token b;token c;token d;token m;token p;kind e;rule e e p;rule e m e;"
                + "rule e n;rule e o;rank m 9 0;rank p 9 " + side + ";");
            desk.note(3, 506, true);
            Check.due("m n p is", desk.missing(), side == 2 ? 0 : 8);
            desk.strike(0);
            desk.note(3, 506, false);
            Check.due("m n p isn't", desk.missing(), side == 2 ? 15 : 7);
        }
    }

    /** With fewer RULES than KINDS, the last of which is the one that matters. */
    private static void missingOfFewRules() {
        LalrDesk desk = Check.told("token a;token b;kind s;kind t;kind u;kind v;kind w;rule s w;rule w a;rule w b;");
        desk.note(1, 0, true);
        Check.due("a is", desk.missing(), 4);
        desk.note(1, 1, true);
        Check.due("b is, too", desk.missing(), 0);
    }

    /** "is a SENTENCE or isn't": from STATE 0 alone on, whatever is READ. */
    private static void missingOfWhatIsRead() {
        LalrDesk desk = Check.told(StatesTest.HANGING);
        desk.note(1, 2, true);
        Check.read(desk, 0, 0, 2);
        Check.due("missing", desk.missing(), 3);
        Check.due("TOKENS READ", desk.count(8), 3);
        desk.undo();
        Check.due("missing", desk.missing(), 3);
    }

    /** "the row of so many TOKENS, of several the first by TOKENS": the only one that tells both RULES from one another. */
    private static void asksOfSeven() {
        int[] rows = {666, 660, 606, 66, 600, 60, 6, 0, 165, 561, 123, 554};
        for (int row : rows) {
            String rule = "rule s";
            for (int weight = 100; weight > 0; weight /= 10) {
                rule += " " + (char) ('a' + row / weight % 10);
            }
            LalrDesk desk = Check.told(SEVEN + "kind s;" + rule + ";rule s a a a a;");
            Check.due("ask(3, 0)", desk.ask(3, 0), row);
            Check.due("ask(3, 1)", desk.ask(3, 1), 1);
            Check.due("ask(2, 0)", desk.ask(2, 0), 0);
            Check.due("ask(2, 1)", desk.ask(2, 1), 2);
            Check.due("ask(1, 0)", desk.ask(1, 0), 0);
            Check.due("ask(1, 1)", desk.ask(1, 1), 2);
        }
        LalrDesk two = Check.told(SEVEN + "kind s;rule s g f;rule s g;");
        Check.due("ask(1, 0)", two.ask(1, 0), 6);
        Check.due("ask(1, 1)", two.ask(1, 1), 1);
        Check.due("ask(2, 0)", two.ask(2, 0), 65);
        Check.due("ask(2, 1)", two.ask(2, 1), 1);
        Check.due("ask(3, 0)", two.ask(3, 0), 0);
        Check.due("ask(3, 1)", two.ask(3, 1), 2);
    }

    /** "as few of MISSING as may be are left at worst": half of them; of several such rows the first one. */
    private static void asksTheFirstRow() {
        // a b: by two of the four RULES; b a and b b by one each, but a a by none
        LalrDesk desk = Check.told("token a;token b;kind s;kind t;rule s t b;rule s a b;rule s b a;rule t a;rule s b b;");
        // without 1 and without 0 or 3 a b is yet a SENTENCE: it is by all; b a isn't without 2, b b not without 4
        Check.due("ask(2, 0)", desk.ask(2, 0), 10);
        Check.due("ask(2, 1)", desk.ask(2, 1), 4);
        desk.note(2, 10, true);
        Check.due("missing", desk.missing(), 31 - 4);
        Check.due("ask(2, 0)", desk.ask(2, 0), 11);
        Check.due("ask(2, 1)", desk.ask(2, 1), 3);
        // a yes leaves more than a no would: the worst counts
        desk.note(2, 11, false);
        Check.due("missing", desk.missing(), 16);
        Check.due("one is left anyway", desk.ask(2, 1), 1);
        Check.due("so the first row", desk.ask(2, 0), 0);
    }

    /** "(0, if there are none)", "(as for note(); the first one, if there are none)". */
    private static void asksOfNone() {
        LalrDesk desk = Check.told(SEVEN + "kind s;rule s g g g;rule s f;");
        desk.note(0, 0, true);
        LalrDesk tokens = Check.told("token a;token b;");
        LalrDesk bare = Check.told("token a;token b;kind s;");
        for (LalrDesk none : new LalrDesk[] {desk, tokens, bare}) {
            Check.due("missing", none.missing(), 0);
            for (int length = 1; length <= 3; length++) {
                Check.due("ask(" + length + ", 0)", none.ask(length, 0), 0);
                Check.due("ask(" + length + ", 1)", none.ask(length, 1), 0);
            }
        }
        desk.strike(0);
        Check.due("ask(3, 0)", desk.ask(3, 0), 666);
        Check.due("ask(1, 0)", desk.ask(1, 0), 5);
    }

    /** "-2: there are no TOKENS; NONE: no such ones." "Of several answers that hold NONE goes first." */
    private static void noSuchAsks() {
        LalrDesk[] desks = {Check.told(StatesTest.HANGING), Check.told("token a;"), Check.told("kind s;rule s;"), new LalrDesk()};
        for (LalrDesk desk : desks) {
            for (int length : new int[] {-1, 0, 4, 5, Integer.MAX_VALUE, Integer.MIN_VALUE}) {
                for (int what = -1; what <= 2; what++) {
                    Check.due("ask(" + length + ", " + what + ")", desk.ask(length, what), Check.NONE);
                }
            }
            for (int what : new int[] {-1, -2, 2, 3, Integer.MAX_VALUE, Integer.MIN_VALUE}) {
                Check.due("ask(1, " + what + ")", desk.ask(1, what), Check.NONE);
                Check.due("ask(3, " + what + ")", desk.ask(3, what), Check.NONE);
            }
            for (int length = 1; length <= 3 && desk.count(0) == 0; length++) {
                Check.due("no TOKENS", desk.ask(length, 0), Check.NOTHING);
                Check.due("no TOKENS", desk.ask(length, 1), Check.NOTHING);
            }
        }
    }
}
