/** Promises 23 to 27 and 35 to 37: reading, what could come, the game, undoing, images. */
public final class ReadingTest {
    private static final int RIGHT_STATES = 40;
    private static final String RIGHT_HANDED = "token a;kind s;rule s a s;rule s a;";

    public static void main(String[] args) {
        reads();
        wrongReads();
        readsWithoutStates();
        mostReduces();
        endlessReduces();
        mostStates();
        mostStatesByEmpties();
        wholes();
        expecteds();
        stacks();
        games();
        gamesFromWhatIsRead();
        wrongGames();
        undoes();
        undoesTwentyAtMost();
        images();
        imagesOfNothing();
        Check.end();
    }

    private static void dueStack(LalrDesk desk, int... states) {
        Check.dueRow("stack", desk::stack, states);
        Check.due("one more", desk.stack(states.length), Check.NOTHING);
        Check.due("STATES READ", desk.count(9), states.length);
    }

    private static void reads() {
        // i o l o: nothing, nothing, o to s, nothing
        LalrDesk desk = Check.told(StatesTest.HANGING);
        dueStack(desk, 0);
        Check.due("i", desk.read(0), 0);
        dueStack(desk, 1, 0);
        Check.due("o", desk.read(2), 0);
        dueStack(desk, 2, 1, 0);
        Check.due("l", desk.read(1), 1);
        dueStack(desk, 5, 4, 1, 0);
        Check.due("o", desk.read(2), 0);
        dueStack(desk, 2, 5, 4, 1, 0);
        Check.due("REDUCES", desk.count(7), 1);
        Check.due("TOKENS READ", desk.count(8), 4);
        // i i o l o l: the inner o, then i s l s of it, then l again
        LalrDesk inner = Check.told(StatesTest.HANGING);
        Check.read(inner, 0, 0, 2, 1, 2);
        Check.due("l", inner.read(1), 2);
        dueStack(inner, 5, 4, 1, 0);
        Check.due("REDUCES", inner.count(7), 3);
        // a RULE without SYMBOLS takes no STATE away
        LalrDesk empty = Check.told("token a;token b;kind s;kind k;rule s k a k b;rule k;");
        Check.due("a", empty.read(0), 1);
        dueStack(empty, empty.move(empty.move(0, 11), 0), empty.move(0, 11), 0);
        Check.due("b", empty.read(1), 1);
        Check.due("STATES READ", empty.count(9), 5);
    }

    private static void wrongReads() {
        LalrDesk desk = Check.told(StatesTest.HANGING);
        Check.due("l", desk.read(1), Check.NOTHING);
        dueStack(desk, 0);
        Check.read(desk, 2);
        // l is REDUCED for, then wrong: all stays
        Check.due("l", desk.read(1), Check.NOTHING);
        dueStack(desk, 2, 0);
        Check.due("REDUCES", desk.count(7), 0);
        Check.due("TOKENS READ", desk.count(8), 1);
        Check.due("what can be undone", desk.count(13), 1);
        for (int token : Check.WRONG) {
            Check.due("read(" + token + ")", desk.read(token), Check.NONE);
        }
        Check.due("read(END)", desk.read(3), Check.NONE);
        Check.due("read of a KIND", desk.read(10), Check.NONE);
        dueStack(desk, 2, 0);
    }

    private static void readsWithoutStates() {
        for (LalrDesk desk : new LalrDesk[] {new LalrDesk(), Check.told("token a;token b;")}) {
            for (int k = -1; k < 3; k++) {
                Check.due("read", desk.read(k), Check.NONE);
                Check.due("stack", desk.stack(k), Check.NONE);
                Check.due("game", desk.game(k, 0), Check.NONE);
            }
            Check.due("whole", desk.whole(), Check.NONE);
            Check.due("expected", desk.expected(), 0);
            Check.due("undo", desk.undo(), Check.NONE);
            Check.due("back", desk.back(), Check.NONE);
        }
    }

    /** Behind so many a and b there are three REDUCES for each a ahead of z. */
    private static LalrDesk threeEach(int letters, boolean oneMore) {
        LalrDesk desk = Check.told("token a;token b;token z;kind s;kind e;kind f;kind g;rule e a f;rule f g;rule g e;rule g b;"
            + (oneMore ? "kind h;rule s h z;rule h e;" : "rule s e z;"));
        for (int k = 0; k < letters; k++) {
            Check.read(desk, 0);
        }
        Check.read(desk, 1);
        return desk;
    }

    private static void mostReduces() {
        Check.due("one a", threeEach(1, false).read(2), 3);
        LalrDesk most = threeEach(20, false);
        Check.due("expected", most.expected(), 4);
        Check.due("60 REDUCES", most.read(2), 60);
        Check.due("REDUCES", most.count(7), 60);
        LalrDesk more = threeEach(20, true);
        Check.due("expected", more.expected(), 0);
        Check.due("61 REDUCES", more.read(2), Check.NOTHING);
        Check.due("STATES READ", more.count(9), 22);
        Check.due("REDUCES", more.count(7), 0);
        Check.due("57 and one", threeEach(19, true).read(2), 58);
        Check.due("63 REDUCES", threeEach(21, false).read(2), Check.NOTHING);
        // 60 and 61 REDUCES for END
        String end = "token a;token b;kind s;kind f;kind g;rule s a f;rule f g;rule g s;rule g b;";
        LalrDesk whole = Check.told(end);
        LalrDesk wrong = Check.told(end);
        for (int k = 0; k < 20; k++) {
            Check.read(whole, 0);
            Check.read(wrong, 0);
        }
        Check.read(whole, 1);
        Check.due("whole with 60", whole.whole(), 1);
        Check.read(wrong, 0, 1);
        Check.due("whole with 63", wrong.whole(), 0);
    }

    private static void endlessReduces() {
        // x to y to x and so on: the RULE of s comes too late
        LalrDesk desk = Check.told("token a;kind s;kind x;kind y;rule y x;rule x y;rule x a;rule s x;");
        Check.read(desk, 0);
        Check.due("whole", desk.whole(), 0);
        Check.due("sentences(1)", desk.sentences(1), 0);
        // of nothing a k and again
        LalrDesk nothing = Check.told("token a;kind s;kind k;rule k;rule s k s;rule s;");
        Check.due("whole", nothing.whole(), 0);
        Check.due("sentences(0)", nothing.sentences(0), 0);
        Check.due("stack", nothing.stack(0), 0);
    }

    private static void mostStates() {
        LalrDesk desk = Check.told(RIGHT_HANDED);
        for (int k = 1; k < RIGHT_STATES; k++) {
            Check.due("read", desk.read(0), 0);
            Check.due("STATES READ", desk.count(9), k + 1);
        }
        Check.due("whole with 40 STATES", desk.whole(), 1);
        Check.due("expected with 40 STATES", desk.expected(), 0);
        Check.due("41 STATES", desk.read(0), Check.NOTHING);
        Check.due("STATES READ", desk.count(9), RIGHT_STATES);
        Check.due("game", desk.game(4, 0), 1);
        Check.due("stack(39)", desk.stack(39), 0);
        Check.due("stack(40)", desk.stack(40), Check.NOTHING);
    }

    private static void mostStatesByEmpties() {
        // b comes behind an empty k: with 40 STATES there is no room for the k, even for END
        LalrDesk desk = Check.told("token a;token b;kind s;kind k;rule s a s k;rule s b;rule k;");
        for (int k = 1; k < RIGHT_STATES - 1; k++) {
            Check.read(desk, 0);
        }
        Check.read(desk, 1);
        Check.due("STATES READ", desk.count(9), RIGHT_STATES);
        // b to s, then k: 41
        Check.due("whole", desk.whole(), 0);
        desk.undo();
        desk.undo();
        Check.read(desk, 1);
        Check.due("STATES READ", desk.count(9), RIGHT_STATES - 1);
        // b, and 38 times k and a s k, which are more than 60
        Check.due("whole", desk.whole(), 0);
        LalrDesk few = Check.told("token a;token b;token c;token d;kind s;kind k;kind t;rule s t;rule s t s d;rule t a;"
            + "rule s b k c;rule k;");
        // a goes to t, t, .. each one STATE; then b and an empty k
        for (int k = 0; k < RIGHT_STATES - 3; k++) {
            Check.read(few, 0);
        }
        Check.due("STATES READ", few.count(9), RIGHT_STATES - 2);
        Check.read(few, 1);
        Check.due("STATES READ", few.count(9), RIGHT_STATES - 1);
        Check.due("k is the 40th, c the 41st", few.read(2), Check.NOTHING);
        Check.due("STATES READ", few.count(9), RIGHT_STATES - 1);
        Check.due("undo", few.undo(), 19);
        Check.due("undo", few.undo(), 18);
        Check.read(few, 1);
        Check.due("k is the 39th, c the 40th", few.read(2), 1);
        Check.due("STATES READ", few.count(9), RIGHT_STATES);
    }

    private static void wholes() {
        LalrDesk desk = Check.told(StatesTest.HANGING);
        int[] row = {0, 2, 1, 0, 2, 1, 2};
        int[] due = {0, 0, 1, 0, 0, 1, 0, 1};
        for (int k = 0; k < due.length; k++) {
            Check.due("whole", desk.whole(), due[k]);
            if (k < row.length) {
                Check.read(desk, row[k]);
            }
        }
        Check.due("all stays", desk.count(9), 8);
        Check.due("of nothing", Check.told("kind s;rule s;").whole(), 1);
        Check.due("of nothing", Check.told("kind s;").whole(), 0);
    }

    private static void expecteds() {
        LalrDesk desk = Check.told(StatesTest.HANGING);
        int[] row = {0, 2, 1, 2};
        int[] due = {5, 5, 2, 5, 0};
        for (int k = 0; k < due.length; k++) {
            Check.due("expected", desk.expected(), due[k]);
            if (k < row.length) {
                Check.read(desk, row[k]);
            }
        }
        Check.due("all stays", desk.count(7), 1);
        // l has an ACTION behind o, but would be WRONG
        LalrDesk other = Check.told(StatesTest.HANGING);
        Check.read(other, 2);
        Check.due("an ACTION", other.action(other.stack(0), 1), 2002);
        Check.due("expected", other.expected(), 0);
        Check.due("of seven", Check.told("token a;token b;token c;token d;token e;token f;token g;kind s;rule s g;rule s a;")
            .expected(), 65);
    }

    private static void stacks() {
        LalrDesk desk = Check.told(StatesTest.HANGING);
        for (int k : Check.WRONG) {
            Check.due("stack(" + k + ")", desk.stack(k), k < 0 ? Check.NONE : Check.NOTHING);
        }
        Check.read(desk, 0, 0, 2);
        dueStack(desk, 2, 1, 1, 0);
    }

    private static void games() {
        // who lets o come as the first one ends the game: only i can be gone on with
        LalrDesk desk = Check.told(StatesTest.HANGING);
        Check.dueRow("game(.., 0)", n -> desk.game(n, 0), 1, 0, 0, 0, 0, Check.NONE);
        Check.dueRow("game(.., 1)", n -> desk.game(n, 1), -2, 0, 2, 0, 2, Check.NONE);
        // of a alone: who lets the last one come wins
        LalrDesk one = Check.told(RIGHT_HANDED);
        Check.dueRow("game(.., 0)", n -> one.game(n, 0), 1, 0, 1, 0, 1);
        Check.dueRow("game(.., 1)", n -> one.game(n, 1), -2, 0, -2, 0, -2);
    }

    private static void gamesFromWhatIsRead() {
        LalrDesk desk = Check.told(StatesTest.HANGING);
        Check.read(desk, 0, 2);
        // only l may come, then by o the other one ends it
        Check.dueRow("game(.., 0)", n -> desk.game(n, 0), 1, 0, 1, 1, 1);
        Check.dueRow("game(.., 1)", n -> desk.game(n, 1), -2, 1, -2, -2, -2);
        dueStack(desk, 2, 1, 0);
        Check.due("what can be undone", desk.count(13), 2);
        Check.read(desk, 1, 2);
        Check.dueRow("game(.., 0)", n -> desk.game(n, 0), 1, 1, 1, 1, 1);
        Check.dueRow("game(.., 1)", n -> desk.game(n, 1), -2, -2, -2, -2, -2);
    }

    private static void wrongGames() {
        LalrDesk desk = Check.told(StatesTest.HANGING);
        for (int k : Check.WRONG) {
            Check.due("game(" + k + ", 0)", desk.game(k, 0), Check.NONE);
            Check.due("game(0, " + k + ")", desk.game(0, k), Check.NONE);
        }
        Check.due("game(0, 2)", desk.game(0, 2), Check.NONE);
        Check.due("game(5, 1)", desk.game(5, 1), Check.NONE);
    }

    private static void undoes() {
        LalrDesk desk = Check.told(StatesTest.HANGING);
        Check.due("undo", desk.undo(), Check.NONE);
        Check.read(desk, 0, 0, 2, 1, 2, 1);
        Check.due("REDUCES", desk.count(7), 3);
        Check.due("wrong", desk.read(1), Check.NOTHING);
        Check.due("undo", desk.undo(), 5);
        dueStack(desk, 2, 5, 4, 1, 1, 0);
        Check.due("REDUCES", desk.count(7), 1);
        Check.due("TOKENS READ", desk.count(8), 5);
        Check.due("undo", desk.undo(), 4);
        Check.due("undo", desk.undo(), 3);
        dueStack(desk, 2, 1, 1, 0);
        Check.due("REDUCES", desk.count(7), 0);
        Check.due("i", desk.read(1), 1);
        Check.due("can be undone", desk.count(13), 4);
        for (int left = 3; left >= 0; left--) {
            Check.due("undo", desk.undo(), left);
        }
        dueStack(desk, 0);
        Check.due("undo", desk.undo(), Check.NONE);
        Check.due("undo", desk.undo(), Check.NONE);
    }

    private static void undoesTwentyAtMost() {
        LalrDesk desk = Check.told("token a;kind s;rule s s a;rule s;");
        for (int k = 1; k <= 45; k++) {
            Check.due("a", desk.read(0), 1);
            Check.due("can be undone", desk.count(13), Math.min(k, 20));
        }
        for (int left = 19; left >= 0; left--) {
            Check.due("undo", desk.undo(), left);
            Check.due("TOKENS READ", desk.count(8), 26 + left - 1);
            Check.due("REDUCES", desk.count(7), 26 + left - 1);
        }
        Check.due("undo", desk.undo(), Check.NONE);
        Check.due("TOKENS READ", desk.count(8), 25);
    }

    private static void images() {
        LalrDesk desk = Check.told(StatesTest.HANGING);
        Check.due("back", desk.back(), Check.NONE);
        Check.read(desk, 0, 2, 1);
        Check.due("keep", desk.keep(), 4);
        Check.due("can be undone", desk.count(13), 3);
        Check.read(desk, 0, 2);
        Check.due("back", desk.back(), 4);
        dueStack(desk, 5, 4, 1, 0);
        Check.due("REDUCES", desk.count(7), 1);
        Check.due("TOKENS READ", desk.count(8), 3);
        Check.due("nothing to undo", desk.undo(), Check.NONE);
        Check.read(desk, 2);
        Check.due("undo", desk.undo(), 0);
        Check.due("back again", desk.back(), 4);
        Check.read(desk, 0);
        Check.due("keep", desk.keep(), 5);
        Check.read(desk, 2);
        Check.due("back to the later one", desk.back(), 5);
        dueStack(desk, 1, 5, 4, 1, 0);
    }

    private static void imagesOfNothing() {
        LalrDesk desk = new LalrDesk();
        Check.due("back", desk.back(), Check.NONE);
        Check.due("keep", desk.keep(), 0);
        Check.due("back", desk.back(), 0);
        Check.due("text", Check.tell(desk, RIGHT_HANDED), 4);
        Check.due("back", desk.back(), Check.NONE);
    }
}
