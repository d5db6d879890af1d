import java.util.ArrayList;
import java.util.List;
import java.util.function.Supplier;
import java.util.function.ToIntFunction;

/**
 * "all stays": behind calls that the document refuses, and behind those that only ask, all others answer what they
 * answer on a second desk that was never asked so.
 */
public final class RefusedTest {
    private static final int INDEX = -101;
    private static final int ELEMENT = -102;
    private static final String SUMS = "token n;token p;token m;kind e;kind x;rule e e p e;rule e e m e;rule e n;rule x e;"
        + "rank p 1 0;rank m 2 1;";
    private static final String RIGHT = "token a;token b;kind s;kind t;rule s t b;rule t a t;rule t a;";

    private static final List<String> NAMES = new ArrayList<>();
    private static final List<ToIntFunction<LalrDesk>> CALLS = new ArrayList<>();
    private static final List<Integer> DUES = new ArrayList<>();

    public static void main(String[] args) {
        gatherRefused();
        List<Supplier<LalrDesk>> desks = List.of(LalrDesk::new, RefusedTest::ofTokens, RefusedTest::ofSums,
            RefusedTest::ofMostRead, RefusedTest::ofMost, RefusedTest::ofFewStates);
        for (Supplier<LalrDesk> made : desks) {
            refusedOneByOne(made);
            refusedAllAtOnce(made);
            askedOnly(made);
        }
        for (Supplier<LalrDesk> made : List.<Supplier<LalrDesk>>of(LalrDesk::new, RefusedTest::ofTokens, RefusedTest::ofSums,
            RefusedTest::ofMostRead, RefusedTest::ofFewStates)) {
            faultyTexts(made);
        }
        refusedByFew();
        refusedBySums();
        refusedByMost();
        Check.end();
    }

    // ---- the desks

    private static LalrDesk ofTokens() {
        LalrDesk desk = Check.told("token n;token p;rank n 3 1;");
        desk.note(2, 10, true);
        desk.strike(0);
        desk.keep();
        return desk;
    }

    private static LalrDesk ofSums() {
        LalrDesk desk = Check.told(SUMS);
        Check.read(desk, 0, 1, 0);
        desk.keep();
        Check.read(desk, 2);
        desk.note(3, 10, true);
        desk.note(1, 1, false);
        desk.strike(0);
        desk.note(3, 20, true);
        desk.known(3);
        return desk;
    }

    /** The row, the NOTES and what can be undone are as full as may be. */
    private static LalrDesk ofMostRead() {
        LalrDesk desk = Check.told(RIGHT);
        for (int k = 0; k < 39; k++) {
            Check.read(desk, 0);
            if (k == 30) {
                desk.keep();
            }
        }
        for (int k = 0; k < 24; k++) {
            Check.due("note or strike", k % 5 == 4 ? desk.strike(k - 2) : desk.note(2, 1, k % 2 == 0), k);
        }
        desk.known(17);
        return desk;
    }

    /** The TAPE, too. */
    private static LalrDesk ofMost() {
        LalrDesk desk = ofMostRead();
        Check.feed(desk, "token x;token y;" + " ".repeat(684));
        return desk;
    }

    private static LalrDesk ofFewStates() {
        LalrDesk desk = Check.told("kind s;rule s;");
        desk.note(0, 0, true);
        return desk;
    }

    // ---- what is refused everywhere

    private static void add(String name, int due, ToIntFunction<LalrDesk> call) {
        NAMES.add(name);
        CALLS.add(call);
        DUES.add(due);
    }

    private static void gatherRefused() {
        gatherRefusedTexts();
        gatherRefusedSymbols();
        gatherRefusedTables();
        gatherRefusedReading();
        gatherRefusedNotes();
        for (int far : new int[] {-1, 14, Integer.MAX_VALUE, Integer.MIN_VALUE}) {
            add("count(" + far + ")", Check.NONE, desk -> desk.count(far));
        }
    }

    private static void gatherRefusedTexts() {
        for (int n : new int[] {-1, 701, Integer.MAX_VALUE, Integer.MIN_VALUE}) {
            add("text(" + n + ")", Check.NOTHING, desk -> desk.text(n));
        }
        add("fault(-1)", Check.NONE, desk -> desk.fault(-1));
        add("fault(2)", Check.NONE, desk -> desk.fault(2));
        add("named(0)", Check.NONE, desk -> desk.named(0));
        add("named(-1)", Check.NONE, desk -> desk.named(-1));
    }

    private static void gatherRefusedSymbols() {
        for (int far : new int[] {-1, 7, Integer.MAX_VALUE, Integer.MIN_VALUE}) {
            add("token(" + far + ", 0)", Check.NONE, desk -> desk.token(far, 0));
            add("token(0, " + far + ")", Check.NONE, desk -> desk.token(0, far));
            add("kind(" + far + ", 0)", INDEX, desk -> Answers.kind(desk, far, 0));
            add("kind(0, " + far + ")", ELEMENT, desk -> desk.count(1) == 0 ? ELEMENT : Answers.kind(desk, 0, far));
            add("rule(0, " + far + ")", Check.NONE, desk -> desk.rule(0, far));
            add("shortest(" + far + ", 0)", Check.NONE, desk -> desk.shortest(far, 0));
        }
        for (int far : new int[] {-1, 12, Integer.MAX_VALUE, Integer.MIN_VALUE}) {
            add("rule(" + far + ", 0)", Check.NONE, desk -> desk.rule(far, 0));
        }
        add("shortest(0, -1)", Check.NONE, desk -> desk.shortest(0, -1));
    }

    private static void gatherRefusedTables() {
        for (int far : new int[] {-1, 48, Integer.MAX_VALUE, Integer.MIN_VALUE}) {
            add("state(" + far + ", 0)", Check.NONE, desk -> desk.state(far, 0));
            add("state(0, " + far + ")", Check.NONE, desk -> desk.state(0, far));
            add("item(" + far + ", 0)", Check.NONE, desk -> desk.item(far, 0));
            add("move(" + far + ", 0)", Check.NONE, desk -> desk.move(far, 0));
            add("move(0, " + far + ")", Check.NONE, desk -> desk.move(0, far));
            add("action(" + far + ", 0)", Check.NONE, desk -> desk.action(far, 0));
            add("action(0, " + far + ")", Check.NONE, desk -> desk.action(0, far));
            add("look(" + far + ", 0)", Check.NONE, desk -> desk.look(far, 0));
            add("look(0, " + far + ")", Check.NONE, desk -> desk.look(0, far));
            add("after(" + far + ", 0)", Check.NONE, desk -> desk.after(far, 0));
            add("after(0, " + far + ")", Check.NONE, desk -> desk.after(0, far));
            add("relations(" + far + ")", Check.NONE, desk -> desk.relations(far));
            add("conflict(0, " + far + ")", Check.NONE, desk -> desk.conflict(0, far));
            add("witness(" + far + ", 0)", Check.NONE, desk -> desk.witness(far, 0));
            add("offset(" + far + ")", Check.NONE, desk -> desk.offset(far));
            add("packed(0, " + far + ")", Check.NONE, desk -> desk.packed(0, far));
            add("tried(" + far + ", 0)", Check.NONE, desk -> desk.tried(far, 0));
            add("tried(0, " + far + ")", Check.NONE, desk -> desk.tried(0, far));
            add("tried(2, " + far + ")", Check.NONE, desk -> desk.tried(2, far));
            add("tried(3, " + far + ")", Check.NONE, desk -> desk.tried(3, far));
        }
        add("item(0, -1)", Check.NONE, desk -> desk.item(0, -1));
        add("witness(0, -1)", Check.NONE, desk -> desk.witness(0, -1));
        add("conflict(-1, 0)", Check.NONE, desk -> desk.conflict(-1, 0));
        add("packed(-1, 0)", Check.NONE, desk -> desk.packed(-1, 0));
        add("packed(1000, 0)", Check.NONE, desk -> desk.packed(1000, 0));
    }

    private static void gatherRefusedReading() {
        for (int far : new int[] {-1, 7, Integer.MAX_VALUE, Integer.MIN_VALUE}) {
            add("read(" + far + ")", Check.NONE, desk -> desk.read(far));
            add("sentences(" + far + ")", Check.NONE, desk -> desk.sentences(far));
            add("game(" + far + ", 0)", Check.NONE, desk -> desk.game(far, 0));
            add("game(0, " + far + ")", Check.NONE, desk -> desk.game(0, far));
        }
        add("stack(-1)", Check.NONE, desk -> desk.stack(-1));
        add("chance(-1, 1)", Check.NONE, desk -> desk.chance(-1, 1));
        add("chance(0, 0)", Check.NONE, desk -> desk.chance(0, 0));
        add("chance(0, 10)", Check.NONE, desk -> desk.chance(0, 10));
    }

    private static void gatherRefusedNotes() {
        for (int far : new int[] {-1, 24, Integer.MAX_VALUE, Integer.MIN_VALUE}) {
            add("note(" + far + ", 0, true)", Check.NONE, desk -> desk.note(far, 0, true));
            add("note(2, " + (far == 24 ? 77 : far) + ", true)", Check.NONE, desk -> desk.note(2, far == 24 ? 77 : far, true));
            add("strike(" + far + ")", Check.NONE, desk -> desk.strike(far));
            add("ask(" + far + ", 0)", Check.NONE, desk -> desk.ask(far, 0));
            add("ask(1, " + far + ")", Check.NONE, desk -> desk.ask(1, far));
        }
        for (int far : new int[] {-2, 25, Integer.MAX_VALUE, Integer.MIN_VALUE}) {
            add("known(" + far + ")", 0, desk -> desk.known(far) ? 1 : 0);
        }
    }

    // ---- and what all others answer then

    private static void same(String behind, List<String> got, List<String> due) {
        Check.due("answers behind " + behind, got.size(), due.size());
        for (int k = 0; k < due.size() && k < got.size(); k++) {
            Check.due("behind " + behind + " " + got.get(k) + ", elsewhere " + due.get(k), got.get(k).equals(due.get(k)), true);
        }
    }

    private static void dueRefused(LalrDesk desk, int k) {
        Check.due(NAMES.get(k), CALLS.get(k).applyAsInt(desk), DUES.get(k));
    }

    private static void refusedOneByOne(Supplier<LalrDesk> made) {
        List<String> tables = Answers.ofTables(made.get());
        List<String> use = Answers.ofUse(made.get());
        for (int k = 0; k < CALLS.size(); k++) {
            LalrDesk desk = made.get();
            dueRefused(desk, k);
            same(NAMES.get(k), Answers.ofTables(desk), tables);
            LalrDesk used = made.get();
            dueRefused(used, k);
            same(NAMES.get(k), Answers.ofUse(used), use);
        }
    }

    private static void refusedAllAtOnce(Supplier<LalrDesk> made) {
        LalrDesk used = made.get();
        for (int k = 0; k < 110; k++) {
            dueRefused(used, k);
        }
        same("the first of all", Answers.ofUse(used), Answers.ofUse(made.get()));
        LalrDesk other = made.get();
        for (int k = CALLS.size() - 110; k < CALLS.size(); k++) {
            dueRefused(other, k);
        }
        same("the last of all", Answers.ofUse(other), Answers.ofUse(made.get()));
    }

    /** What only asks is no change either: whatever is asked first, the same is answered. */
    private static void askedOnly(Supplier<LalrDesk> made) {
        List<ToIntFunction<LalrDesk>> asking = List.of(desk -> desk.missing(), desk -> desk.ask(3, 0), desk -> desk.tried(0, 0),
            desk -> desk.tried(2, 0), desk -> desk.tried(3, 0), desk -> desk.tried(4, 0), desk -> desk.sentences(4),
            desk -> desk.game(4, 1), desk -> desk.chance(77, 9), desk -> desk.whole(), desk -> desk.expected(),
            desk -> desk.relations(4), desk -> desk.stack(0), desk -> desk.witness(0, 0), desk -> desk.count(7));
        List<String> tables = Answers.ofTables(made.get());
        List<String> use = Answers.ofUse(made.get());
        for (int k = 0; k < asking.size(); k++) {
            LalrDesk desk = made.get();
            int first = asking.get(k).applyAsInt(desk);
            Check.due("asked once more, " + k, asking.get(k).applyAsInt(desk), first);
            same("asking " + k, Answers.ofTables(desk), tables);
            LalrDesk used = made.get();
            asking.get(k).applyAsInt(used);
            same("asking " + k, Answers.ofUse(used), use);
        }
    }

    /** "(it is empty then) .. NONE with a FAULT, all else stays": all but the FAULT, which a shorter text has here, too. */
    private static void faultyTexts(Supplier<LalrDesk> made) {
        String[] texts = {"token a;token b;kind c;rule c a b c;rule c;;", "token a;kind s;rule s a;rank a 0 1;", "token q;token q;",
            "kind s;rule s s;rule s t;", "kind s;rule s;rule s s s;rule s;", TextTest.grammarOfStates(49),
            TextTest.grammarOfStates(50) + "token z"};
        List<String> tables = Answers.ofTables(made.get());
        for (String text : texts) {
            LalrDesk desk = made.get();
            Check.due("text of " + text, Check.tell(desk, text), Check.NONE);
            same(text, Answers.ofTables(desk), tables);
            LalrDesk used = made.get();
            Check.due("text of " + text, Check.tell(used, text), Check.NONE);
            LalrDesk other = made.get();
            Check.due("text of |", Check.tell(other, "|"), Check.NONE);
            same(text, withoutFaults(Answers.ofUse(used)), withoutFaults(Answers.ofUse(other)));
        }
    }

    private static List<String> withoutFaults(List<String> rows) {
        rows.removeIf(row -> row.startsWith("fault"));
        return rows;
    }

    // ---- what is refused for what was done

    private static void refused(Supplier<LalrDesk> made, String name, int due, ToIntFunction<LalrDesk> call) {
        LalrDesk desk = made.get();
        Check.due(name, call.applyAsInt(desk), due);
        same(name, Answers.ofTables(desk), Answers.ofTables(made.get()));
        LalrDesk used = made.get();
        Check.due(name, call.applyAsInt(used), due);
        Check.due(name + " once more", call.applyAsInt(used), due);
        same(name, Answers.ofUse(used), Answers.ofUse(made.get()));
    }

    private static void refusedByFew() {
        for (Supplier<LalrDesk> made : List.<Supplier<LalrDesk>>of(LalrDesk::new, () -> Check.told("token n;token p;"))) {
            refused(made, "read(0)", Check.NONE, desk -> desk.read(0));
            refused(made, "whole()", Check.NONE, LalrDesk::whole);
            refused(made, "expected()", 0, LalrDesk::expected);
            refused(made, "stack(0)", Check.NONE, desk -> desk.stack(0));
            refused(made, "game(1, 0)", Check.NONE, desk -> desk.game(1, 0));
            refused(made, "undo()", Check.NONE, LalrDesk::undo);
            refused(made, "back()", Check.NONE, LalrDesk::back);
            refused(made, "strike(0)", Check.NONE, desk -> desk.strike(0));
            refused(made, "text(1)", Check.NOTHING, desk -> desk.text(1));
            refused(made, "known(1)", 0, desk -> desk.known(1) ? 1 : 0);
            refused(made, "note(1, 7, true)", Check.NONE, desk -> desk.note(1, 7, true));
        }
        refused(LalrDesk::new, "ask(1, 0)", Check.NOTHING, desk -> desk.ask(1, 0));
        refused(LalrDesk::new, "chance(1, 1)", Check.NOTHING, desk -> desk.chance(1, 1));
        Supplier<LalrDesk> many = () -> Check.told(TableEdgesTest.LESS_IS_MORE);
        refused(many, "tried(2, 2)", Check.NOTHING, desk -> desk.tried(2, 2));
        refused(many, "undo()", Check.NONE, LalrDesk::undo);
        refused(many, "back()", Check.NONE, LalrDesk::back);
    }

    private static void refusedBySums() {
        refused(RefusedTest::ofSums, "read of a wrong p", Check.NOTHING, desk -> desk.read(1));
        refused(RefusedTest::ofSums, "read of END", Check.NONE, desk -> desk.read(3));
        refused(RefusedTest::ofSums, "strike(4)", Check.NONE, desk -> desk.strike(4));
        refused(RefusedTest::ofSums, "known(5)", 0, desk -> desk.known(5) ? 1 : 0);
        refused(RefusedTest::ofSums, "note of no TOKEN", Check.NONE, desk -> desk.note(3, 31, true));
        refused(RefusedTest::ofSums, "text(1)", Check.NOTHING, desk -> desk.text(1));
        refused(RefusedTest::ofSums, "stack(5)", Check.NOTHING, desk -> desk.stack(5));
    }

    private static void refusedByMost() {
        refused(RefusedTest::ofMost, "feed to a full TAPE", Check.NONE, desk -> desk.feed(1, 2, 3, 4, 5));
        refused(RefusedTest::ofMost, "read of the 41st", Check.NOTHING, desk -> desk.read(0));
        refused(RefusedTest::ofMost, "a 25th note", Check.NONE, desk -> desk.note(0, 0, true));
        refused(RefusedTest::ofMost, "a 25th strike", Check.NONE, desk -> desk.strike(23));
        refused(RefusedTest::ofMost, "known(25)", 0, desk -> desk.known(25) ? 1 : 0);
        refused(RefusedTest::ofMost, "text(701)", Check.NOTHING, desk -> desk.text(701));
        refused(RefusedTest::ofMost, "stack(40)", Check.NOTHING, desk -> desk.stack(40));
    }
}
