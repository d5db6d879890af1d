import java.util.ArrayList;
import java.util.List;
import java.util.NoSuchElementException;

/** What a desk answers to all that can be asked of it: so that two desks can be held against one another. */
final class Answers {
    private static final int INDEX = -101;
    private static final int ELEMENT = -102;

    private final LalrDesk desk;
    private final List<String> rows = new ArrayList<>();

    private Answers(LalrDesk desk) {
        this.desk = desk;
    }

    private void add(String call, int answer) {
        rows.add(call + " = " + answer);
    }

    /** Some 330 answers that change nothing. */
    static List<String> ofTables(LalrDesk desk) {
        Answers all = new Answers(desk);
        all.addCounts();
        all.addSymbols();
        all.addStates();
        all.addRows();
        return all.rows;
    }

    /** Some 250 answers: of the TAPE, of what is READ, of NOTES; behind these the desk is of no use any more. */
    static List<String> ofUse(LalrDesk desk) {
        Answers all = new Answers(desk);
        all.addReading();
        all.addNotes();
        all.addUndone();
        all.addTape();
        return all.rows;
    }

    static int kind(LalrDesk desk, int kind, int what) {
        try {
            return desk.kind(kind, what);
        } catch (IndexOutOfBoundsException problem) {
            return INDEX;
        } catch (NoSuchElementException problem) {
            return ELEMENT;
        }
    }

    private void addCounts() {
        for (int what = 0; what < 14; what++) {
            add("count(" + what + ")", desk.count(what));
        }
        for (int what = 0; what < 5; what++) {
            add("relations(" + what + ")", desk.relations(what));
        }
        add("conflicts", desk.conflicts());
        for (int what = 0; what < 4; what++) {
            add("conflict(0, " + what + ")", desk.conflict(0, what));
            add("conflict(1, " + what + ")", desk.conflict(1, what));
        }
    }

    private void addSymbols() {
        for (char name = 'a'; name <= 'z'; name++) {
            add("named " + name, desk.named(Check.letters("" + name)));
        }
        for (int token = 0; token < 7; token++) {
            add("token(" + token + ", 0)", desk.token(token, 0));
            add("token(" + token + ", 1)", desk.token(token, 1));
        }
        for (int what = 0; what < 5; what++) {
            add("kind(0, " + what + ")", kind(desk, 0, what));
            add("kind(1, " + what + ")", kind(desk, 1, what));
        }
        for (int what = 0; what < 7; what++) {
            add("rule(0, " + what + ")", desk.rule(0, what));
            add("rule(2, " + what + ")", desk.rule(2, what));
            add("rule(11, " + what + ")", desk.rule(11, what));
        }
    }

    private void addStates() {
        for (int state = 0; state < 5; state++) {
            for (int k = 0; k < 5; k++) {
                add("state(" + state + ", " + k + ")", desk.state(state, k));
                add("action(" + state + ", " + k + ")", desk.action(state, k));
                add("look(" + state + ", " + k + ")", desk.look(state, k));
                add("move(" + state + ", " + (k < 3 ? k : 7 + k) + ")", desk.move(state, k < 3 ? k : 7 + k));
            }
            for (int k = 0; k < 2; k++) {
                add("item(" + state + ", " + k + ")", desk.item(state, k));
                add("after(" + state + ", " + k + ")", desk.after(state, k));
                add("witness(" + state + ", " + k + ")", desk.witness(state, k));
                add("shortest(" + k + ", " + state + ")", desk.shortest(k, state));
            }
            add("offset(" + state + ")", desk.offset(state));
        }
    }

    private void addRows() {
        for (int place = 0; place < 12; place++) {
            add("packed(" + place + ", 0)", desk.packed(place, 0));
            add("packed(" + place + ", 1)", desk.packed(place, 1));
        }
        for (int n = 0; n <= 4; n++) {
            add("sentences(" + n + ")", desk.sentences(n));
            add("chance(" + n + ", " + (n + 1) + ")", desk.chance(n, n + 1));
            add("tried(" + n + ", 0)", desk.tried(n, 0));
        }
        add("tried(2, 1)", desk.tried(2, 1));
        add("tried(3, 1)", desk.tried(3, 1));
    }

    private void addReading() {
        add("whole", desk.whole());
        add("expected", desk.expected());
        for (int k = 0; k <= 40; k++) {
            add("stack(" + k + ")", desk.stack(k));
        }
        for (int n = 0; n <= 4; n++) {
            add("game(" + n + ", 0)", desk.game(n, 0));
            add("game(" + n + ", 1)", desk.game(n, 1));
        }
    }

    private void addNotes() {
        add("missing", desk.missing());
        for (int length = 1; length <= 3; length++) {
            add("ask(" + length + ", 0)", desk.ask(length, 0));
            add("ask(" + length + ", 1)", desk.ask(length, 1));
        }
        for (int n = 0; n <= 24; n++) {
            add("known(" + n + ")", desk.known(n) ? 1 : 0);
            add("missing by " + n, desk.missing());
        }
    }

    private void addUndone() {
        for (int k = 0; k <= 20; k++) {
            add("undo", desk.undo());
            add("the last one", desk.stack(0));
            add("REDUCES", desk.count(7));
            add("TOKENS READ", desk.count(8));
            add("STATES READ", desk.count(9));
        }
        add("back", desk.back());
        add("the last one", desk.stack(0));
        add("TOKENS READ", desk.count(8));
    }

    private void addTape() {
        add("fault(0)", desk.fault(0));
        add("fault(1)", desk.fault(1));
        int[] more = Check.numbers("token q;rank q 1 0; ", 0);
        int bytes = desk.feed(more[0], more[1], more[2], more[3], more[4]);
        add("feed", bytes);
        add("text", desk.text(bytes < 0 ? 700 : bytes));
        add("fault(0)", desk.fault(0));
        add("fault(1)", desk.fault(1));
        for (char name = 'a'; name <= 'z'; name++) {
            add("named " + name, desk.named(Check.letters("" + name)));
        }
    }
}
