/**
 * All calls on a desk that was told nothing, or not much: no TEXT, a TEXT of no LINES, TOKENS alone (so no STATES), KINDS
 * alone (so no TOKENS), no RULES.
 */
public final class NothingToldTest {
    private static final int INDEX = -101;
    private static final int ELEMENT = -102;

    public static void main(String[] args) {
        LalrDesk forgetful = Check.told("token a;kind s;rule s s a;rule s a;rank a 1 0;");
        Check.read(forgetful, 0, 0);
        forgetful.note(1, 0, true);
        forgetful.keep();
        Check.due("a TEXT of no LINES", Check.tell(forgetful, " "), 0);
        for (LalrDesk desk : new LalrDesk[] {new LalrDesk(), Check.told(""), forgetful}) {
            symbolsOfNothing(desk);
            statesOfNothing(desk);
            readingOfNothing(desk);
            notesOfNothing(desk);
        }
        tokensAlone();
        readingOfTokensAlone();
        notesOfTokensAlone();
        kindsAlone();
        readingOfKindsAlone();
        noRules();
        Check.end();
    }

    private static void counts(LalrDesk desk, int... due) {
        Check.dueRow("count", desk::count, due);
        Check.due("count(-1)", desk.count(-1), Check.NONE);
        Check.due("count(14)", desk.count(14), Check.NONE);
    }

    private static void symbolsOfNothing(LalrDesk desk) {
        counts(desk, 0, 0, 0, 0, 0, 0, 0, 0, 0, 0, 0, 0, 0, 0);
        Check.due("fault(0)", desk.fault(0), 0);
        Check.due("fault(1)", desk.fault(1), Check.NONE);
        for (char name = 'a'; name <= 'z'; name++) {
            Check.due("named", desk.named(Check.letters("" + name)), Check.NONE);
        }
        for (int k = -1; k <= 11; k++) {
            Check.due("token", desk.token(k, 0), Check.NONE);
            Check.due("token", desk.token(k, 1), Check.NONE);
            Check.due("kind", Answers.kind(desk, k, 0), INDEX);
            Check.due("kind", Answers.kind(desk, k, 5), INDEX);
            Check.due("rule", desk.rule(k, 0), Check.NONE);
            Check.due("rule", desk.rule(k, 6), Check.NONE);
            Check.due("shortest", desk.shortest(k, 0), Check.NONE);
        }
    }

    private static void statesOfNothing(LalrDesk desk) {
        for (int state = -1; state <= 1; state++) {
            for (int k = -1; k <= 1; k++) {
                Check.due("state", desk.state(state, k), Check.NONE);
                Check.due("item", desk.item(state, k), Check.NONE);
                Check.due("move", desk.move(state, k), Check.NONE);
                Check.due("action", desk.action(state, k), Check.NONE);
                Check.due("look", desk.look(state, k), Check.NONE);
                Check.due("after", desk.after(state, k), Check.NONE);
                Check.due("witness", desk.witness(state, k), Check.NONE);
                Check.due("conflict", desk.conflict(state, k), Check.NONE);
            }
            Check.due("offset", desk.offset(state), Check.NONE);
        }
        Check.dueRow("relations", desk::relations, 0, 0, 0, 0, 0, Check.NONE);
        Check.due("conflicts", desk.conflicts(), 0);
        Check.due("packed(0, 0)", desk.packed(0, 0), Check.NOTHING);
        Check.due("packed(999, 1)", desk.packed(999, 1), Check.NOTHING);
        Check.due("packed(1000, 1)", desk.packed(1000, 1), Check.NONE);
        Check.due("packed(0, 2)", desk.packed(0, 2), Check.NONE);
        Check.dueRow("tried(.., 0)", what -> desk.tried(what, 0), 0, 0, Check.NONE, Check.NONE, 0, Check.NONE);
        Check.dueRow("tried(.., 1)", what -> desk.tried(what, 1), -1, -1, -1, -1, -1, -1);
    }

    private static void readingOfNothing(LalrDesk desk) {
        Check.dueRow("sentences", desk::sentences, 0, 0, 0, 0, 0, Check.NONE);
        Check.due("read(0)", desk.read(0), Check.NONE);
        Check.due("read(-1)", desk.read(-1), Check.NONE);
        Check.due("whole", desk.whole(), Check.NONE);
        Check.due("expected", desk.expected(), 0);
        Check.due("stack(0)", desk.stack(0), Check.NONE);
        Check.due("stack(1)", desk.stack(1), Check.NONE);
        for (int n = -1; n <= 5; n++) {
            Check.due("game(" + n + ", 0)", desk.game(n, 0), Check.NONE);
            Check.due("game(" + n + ", 1)", desk.game(n, 1), Check.NONE);
        }
        Check.due("chance(0, 1)", desk.chance(0, 1), Check.NOTHING);
        Check.due("chance(0, 0)", desk.chance(0, 0), Check.NONE);
        Check.due("undo", desk.undo(), Check.NONE);
        Check.due("back", desk.back(), Check.NONE);
        Check.due("keep", desk.keep(), 0);
        Check.due("back", desk.back(), 0);
    }

    private static void notesOfNothing(LalrDesk desk) {
        Check.due("strike(0)", desk.strike(0), Check.NONE);
        Check.due("known(1)", desk.known(1), false);
        Check.due("known(0)", desk.known(0), true);
        Check.due("known(-1)", desk.known(-1), true);
        Check.due("missing", desk.missing(), 0);
        for (int length = 1; length <= 3; length++) {
            Check.due("ask(" + length + ", 0)", desk.ask(length, 0), Check.NOTHING);
            Check.due("ask(" + length + ", 1)", desk.ask(length, 1), Check.NOTHING);
        }
        Check.due("ask(0, 0)", desk.ask(0, 0), Check.NONE);
        Check.due("note(1, 0)", desk.note(1, 0, true), Check.NONE);
        Check.due("note(0, 0)", desk.note(0, 0, true), 0);
        Check.due("strike(0)", desk.strike(0), 1);
        Check.due("missing", desk.missing(), 0);
        Check.due("NOTES", desk.count(11), 2);
        Check.due("text(0)", desk.text(0), 0);
        Check.due("text(1)", desk.text(1), Check.NOTHING);
    }

    /** "Without KINDS there are no STATES." */
    private static void tokensAlone() {
        LalrDesk desk = Check.told("token a;token b;rank b 4 1;");
        counts(desk, 2, 0, 0, 0, 0, 0, 0, 0, 0, 0, 0, 0, 0, 0);
        Check.dueRow("RANK", k -> desk.token(k, 0), 0, 4, Check.NONE);
        Check.due("named b", desk.named(2 << 25), 1);
        Check.due("kind(0, 0)", Answers.kind(desk, 0, 0), INDEX);
        Check.due("rule(0, 0)", desk.rule(0, 0), Check.NONE);
        statesOfNothing(desk);
        Check.due("shortest(0, 0)", desk.shortest(0, 0), Check.NONE);
    }

    private static void readingOfTokensAlone() {
        LalrDesk desk = Check.told("token a;token b;");
        Check.dueRow("sentences", desk::sentences, 0, 0, 0, 0, 0, Check.NONE);
        Check.dueRow("read", desk::read, Check.NONE, Check.NONE, Check.NONE);
        Check.due("whole", desk.whole(), Check.NONE);
        Check.due("expected", desk.expected(), 0);
        Check.due("stack(0)", desk.stack(0), Check.NONE);
        Check.dueRow("game", n -> desk.game(n, 0), -1, -1, -1, -1, -1, -1);
        Check.dueRow("game", n -> desk.game(n, 1), -1, -1, -1, -1, -1, -1);
        Check.due("chance(0, 1)", desk.chance(0, 1), 0);
        Check.due("chance(5, 9)", desk.chance(5, 9), 0);
        Check.due("undo", desk.undo(), Check.NONE);
        Check.due("back", desk.back(), Check.NONE);
        Check.due("keep", desk.keep(), 0);
        Check.due("back", desk.back(), 0);
    }

    private static void notesOfTokensAlone() {
        LalrDesk desk = Check.told("token a;token b;");
        Check.due("missing", desk.missing(), 0);
        Check.dueRow("ask(.., 0)", length -> desk.ask(length, 0), -1, 0, 0, 0, -1);
        Check.dueRow("ask(.., 1)", length -> desk.ask(length, 1), -1, 0, 0, 0, -1);
        Check.due("note(4, 1111)", desk.note(4, 1111, true), 0);
        Check.due("note(4, 1112)", desk.note(4, 1112, true), Check.NONE);
        Check.due("strike(0)", desk.strike(0), 1);
        Check.due("known(2)", desk.known(2), true);
        Check.due("known(3)", desk.known(3), false);
        Check.due("missing", desk.missing(), 0);
    }

    /** Two STATES, without TOKENS: END is 0. */
    private static void kindsAlone() {
        LalrDesk desk = Check.told("kind s;kind t;");
        counts(desk, 0, 2, 0, 2, 2, 1, 1, 0, 0, 1, 1, 0, 0, 0);
        Check.due("token(0, 0)", desk.token(0, 0), Check.NONE);
        Check.dueRow("kind(0, ..)", what -> Answers.kind(desk, 0, what), 0, 0, 1, 0, -2, ELEMENT);
        Check.dueRow("kind(1, ..)", what -> Answers.kind(desk, 1, what), 0, 0, 0, 0, -2, ELEMENT);
        Check.due("kind(2, 0)", Answers.kind(desk, 2, 0), INDEX);
        Check.due("rule(0, 0)", desk.rule(0, 0), Check.NONE);
        Check.dueRow("state(0, ..)", k -> desk.state(0, k), 1, 1, -2, 0, 0, Check.NONE);
        Check.dueRow("state(1, ..)", k -> desk.state(1, k), 1, 1, 10, -2, 1, Check.NONE);
        Check.dueRow("item(0, ..)", k -> desk.item(0, k), 0, -2);
        Check.dueRow("item(1, ..)", k -> desk.item(1, k), 1, -2);
        Check.dueRow("move(0, ..)", k -> desk.move(0, k), -1, -1, -1, -1, -1, -1, -1, -1, -1, -1, 1, -2, -1);
        Check.dueRow("action(0, ..)", k -> desk.action(0, k), 0, Check.NONE);
        Check.dueRow("action(1, ..)", k -> desk.action(1, k), 3000, Check.NONE);
        Check.dueRow("look(0, ..)", k -> desk.look(0, k), -2, Check.NONE);
        Check.dueRow("look(1, ..)", k -> desk.look(1, k), 1, Check.NONE);
        Check.dueRow("after(0, ..)", k -> desk.after(0, k), 1, -2, Check.NONE);
        Check.dueRow("after(1, ..)", k -> desk.after(1, k), -2, -2, Check.NONE);
        Check.dueRow("relations", desk::relations, 1, 0, 0, 0, 0, Check.NONE);
        Check.due("conflicts", desk.conflicts(), 0);
        Check.due("witness(1, 0)", desk.witness(1, 0), Check.NOTHING);
        Check.due("shortest(0, 0)", desk.shortest(0, 0), Check.NOTHING);
        Check.dueRow("packed", k -> desk.packed(k, 0), 3000, -2);
        Check.dueRow("packed", k -> desk.packed(k, 1), 1, -2);
        Check.dueRow("tried(.., 0)", what -> desk.tried(what, 0), 0, 0, Check.NONE, 0, 0, Check.NONE);
        Check.dueRow("tried(3, ..)", kind -> desk.tried(3, kind), 0, 0, Check.NONE);
    }

    private static void readingOfKindsAlone() {
        LalrDesk desk = Check.told("kind s;rule s;");
        Check.dueRow("sentences", desk::sentences, 1, 0, 0, 0, 0, Check.NONE);
        Check.due("read(0)", desk.read(0), Check.NONE);
        Check.due("whole", desk.whole(), 1);
        Check.due("expected", desk.expected(), 0);
        Check.dueRow("stack", desk::stack, 0, -2);
        Check.dueRow("game", n -> desk.game(n, 0), 1, 1, 1, 1, 1, -1);
        Check.dueRow("game", n -> desk.game(n, 1), -2, -2, -2, -2, -2, -1);
        Check.due("chance(0, 1)", desk.chance(0, 1), Check.NOTHING);
        Check.due("chance(0, 10)", desk.chance(0, 10), Check.NONE);
        Check.due("undo", desk.undo(), Check.NONE);
        Check.due("keep", desk.keep(), 1);
        Check.due("back", desk.back(), 1);
        Check.due("missing", desk.missing(), 1);
        Check.due("ask(1, 0)", desk.ask(1, 0), Check.NOTHING);
        Check.due("note(1, 0)", desk.note(1, 0, true), Check.NONE);
        Check.due("note(0, 0)", desk.note(0, 0, false), 0);
        Check.due("missing", desk.missing(), 1);
        Check.due("note(0, 0)", desk.note(0, 0, true), 1);
        Check.due("missing", desk.missing(), 0);
        Check.due("sentences(0) without RULES", Check.told("kind s;").sentences(0), 0);
    }

    private static void noRules() {
        LalrDesk desk = Check.told("token a;token b;kind s;");
        counts(desk, 2, 1, 0, 2, 2, 1, 1, 0, 0, 1, 3, 0, 0, 0);
        Check.dueRow("read", desk::read, Check.NOTHING, Check.NOTHING, Check.NONE);
        Check.due("whole", desk.whole(), 0);
        Check.due("expected", desk.expected(), 0);
        Check.dueRow("action(1, ..)", k -> desk.action(1, k), 0, 0, 3000, Check.NONE);
        Check.dueRow("move(0, ..)", k -> desk.move(0, k), -2, -2, -1, -1, -1, -1, -1, -1, -1, -1, 1, -1);
        Check.due("look(1, 0)", desk.look(1, 0), 4);
        Check.due("after(0, 0)", desk.after(0, 0), 4);
        Check.dueRow("packed", k -> desk.packed(k, 0), -2, -2, 3000, -2);
        Check.dueRow("sentences", desk::sentences, 0, 0, 0, 0, 0, Check.NONE);
        Check.due("chance(1, 3)", desk.chance(1, 3), 0);
        Check.due("missing", desk.missing(), 0);
        Check.due("ask(3, 0)", desk.ask(3, 0), 0);
        Check.due("ask(3, 1)", desk.ask(3, 1), 0);
        Check.dueRow("tried(.., 0)", what -> desk.tried(what, 0), 0, 0, Check.NONE, 0, 0, Check.NONE);
    }
}
