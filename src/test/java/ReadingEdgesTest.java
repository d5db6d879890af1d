/** Promises 23 to 27 and 35 to 37 and what Terms 3 and 4 say of them: the boundaries that their sentences name. */
public final class ReadingEdgesTest {
    /** Each a and b makes the row one STATE longer; c REDUCES all of them to t. */
    private static final String RIGHT = "token a;token b;token c;kind s;kind t;rule s t c;rule t a t;rule t b;";
    /** Each TOKEN but the first REDUCES once; the row has three STATES at most. */
    private static final String LEFT = "token a;kind s;rule s s a;rule s a;";
    private static final int[] BELOW = {-1, -2, Integer.MIN_VALUE};

    public static void main(String[] args) {
        noSuchReads();
        lastOfSevenReads();
        wrongFromTheFirstOn();
        mostReducesOfAToken();
        mostReducesOfEnd();
        mostStates();
        mostStatesOfEmpties();
        mostStatesForEnd();
        wholeOfNothingRead();
        askingReadsNothing();
        stacks();
        stacksWithoutStates();
        gamesOfNone();
        gamesOfAll();
        gamesByTheFirstToken();
        noSuchGames();
        undoOfNone();
        undoFromTheFullRow();
        undoOfTwenty();
        undoGoesRound();
        wrongIsNotUndone();
        imageStays();
        imageOfTheFullRow();
        imageIsReplaced();
        backLeavesNothingToUndo();
        imageOfNoStates();
        imageOfTexts();
        lastOfManyCalls();
        Check.end();
    }

    private static void reads(LalrDesk desk, int token, int times) {
        for (int k = 0; k < times; k++) {
            Check.read(desk, token);
        }
    }

    private static void dueStack(LalrDesk desk, int... states) {
        Check.dueRow("stack", desk::stack, states);
        Check.due("one more", desk.stack(states.length), Check.NOTHING);
        Check.due("STATES READ", desk.count(9), states.length);
    }

    private static void dueCounts(LalrDesk desk, int reduces, int tokens, int states) {
        Check.due("REDUCES", desk.count(7), reduces);
        Check.due("TOKENS READ", desk.count(8), tokens);
        Check.due("STATES READ", desk.count(9), states);
    }

    /** "NONE: no such TOKEN, there are no STATES": END, a KIND, what isn't told. */
    private static void noSuchReads() {
        LalrDesk desk = Check.told(RIGHT);
        for (int token : new int[] {-1, -2, 3, 4, 7, 10, 11, Integer.MAX_VALUE, Integer.MIN_VALUE}) {
            Check.due("read(" + token + ")", desk.read(token), Check.NONE);
        }
        dueStack(desk, 0);
        Check.due("nothing to undo", desk.undo(), Check.NONE);
        for (int token = -1; token <= 3; token++) {
            Check.due("read(" + token + ") without STATES", Check.told("token a;token b;").read(token), Check.NONE);
            Check.due("read(" + token + ") without a TEXT", new LalrDesk().read(token), Check.NONE);
            Check.due("read(" + token + ") without TOKENS", Check.told("kind s;rule s;").read(token), Check.NONE);
        }
    }

    private static void lastOfSevenReads() {
        LalrDesk desk = Check.told("token a;token b;token c;token d;token e;token f;token g;kind s;rule s g s f;rule s;");
        Check.due("expected", desk.expected(), 64);
        Check.due("g", desk.read(6), 0);
        Check.due("no eighth", desk.read(7), Check.NONE);
        Check.due("expected", desk.expected(), 64 + 32);
        Check.due("f", desk.read(5), 1);
        Check.due("whole", desk.whole(), 1);
        Check.due("expected", desk.expected(), 0);
    }

    /** "no ACTION: it is WRONG"; "By WRONG all is as ahead of that TERMINAL." */
    private static void wrongFromTheFirstOn() {
        LalrDesk desk = Check.told(RIGHT);
        Check.due("c", desk.read(2), Check.NOTHING);
        dueCounts(desk, 0, 0, 1);
        Check.due("nothing to undo", desk.count(13), 0);
        Check.read(desk, 0, 1);
        Check.due("a behind b", desk.read(0), Check.NOTHING);
        Check.due("b behind b", desk.read(1), Check.NOTHING);
        dueCounts(desk, 0, 2, 3);
        Check.due("c", desk.read(2), 2);
        dueCounts(desk, 2, 3, 3);
        for (int token = 0; token < 3; token++) {
            Check.due("nothing is behind a whole row", desk.read(token), Check.NOTHING);
        }
        dueCounts(desk, 2, 3, 3);
        // one REDUCE is done for l, and then it is WRONG
        LalrDesk hanging = Check.told(StatesTest.HANGING);
        Check.read(hanging, 2);
        Check.due("l", hanging.read(1), Check.NOTHING);
        dueStack(hanging, 2, 0);
        dueCounts(hanging, 0, 1, 2);
        // without RULES of START each TOKEN is
        LalrDesk bare = Check.told("token a;kind s;");
        Check.due("a", bare.read(0), Check.NOTHING);
        dueStack(bare, 0);
    }

    /** Behind n a and a b there are three REDUCES to s for each a. */
    private static LalrDesk threeEach(int n, String kinds, String rules) {
        LalrDesk desk = Check.told("token a;token b;token z;" + kinds + "kind s;kind f;kind g;" + rules
            + "rule s a f;rule f g;rule g s;rule g b;");
        reads(desk, 0, n);
        Check.read(desk, 1);
        return desk;
    }

    /** "more than 60 REDUCES for one TERMINAL": 57, 58, 60; 61, 63, 64 are WRONG. */
    private static void mostReducesOfAToken() {
        for (int n = 1; n <= 21; n++) {
            for (int more = 0; more <= 1; more++) {
                LalrDesk desk = more == 0 ? threeEach(n, "kind p;", "rule p s z;")
                    : threeEach(n, "kind p;kind q;", "rule p q z;rule q s;");
                int reduces = 3 * n + more;
                boolean is = reduces <= 60;
                Check.due("expected ahead of " + reduces, desk.expected(), is ? 4 : 0);
                Check.due("z by " + reduces, desk.read(2), is ? reduces : Check.NOTHING);
                dueCounts(desk, is ? reduces : 0, is ? n + 2 : n + 1, is ? 3 : n + 2);
                Check.due("what can be undone", desk.count(13), Math.min(20, is ? n + 2 : n + 1));
            }
        }
    }

    private static void mostReducesOfEnd() {
        for (int n = 1; n <= 21; n++) {
            Check.due("whole by " + 3 * n, threeEach(n, "", "").whole(), 3 * n <= 60 ? 1 : 0);
            Check.due("whole by " + (3 * n + 1), threeEach(n, "kind q;", "rule q s;").whole(), 3 * n + 1 <= 60 ? 1 : 0);
        }
        // they count for each TERMINAL anew: 30 each for two of them
        LalrDesk desk = Check.told("token a;token b;token z;kind p;kind s;kind f;kind g;rule p s z p;rule p s;rule s a f;rule f g;"
            + "rule g s;rule g b;");
        for (int round = 1; round <= 3; round++) {
            reads(desk, 0, 10);
            Check.read(desk, 1);
            Check.due("30 each", desk.read(2), 30);
            dueCounts(desk, 30 * round, 12 * round, 1 + 2 * round);
        }
    }

    /** "more than 40 STATES in the row at any time". */
    private static void mostStates() {
        LalrDesk desk = Check.told(RIGHT);
        reads(desk, 0, 39);
        Check.due("STATES READ", desk.count(9), 40);
        Check.due("expected", desk.expected(), 0);
        for (int token = 0; token < 3; token++) {
            Check.due("the 41st by " + token, desk.read(token), Check.NOTHING);
        }
        dueCounts(desk, 0, 39, 40);
        Check.dueRow("game", n -> desk.game(n, 0), 1, 1, 1, 1, 1);
        Check.due("undo", desk.undo(), 19);
        Check.due("expected", desk.expected(), 3);
        Check.due("b is the 40th", desk.read(1), 0);
        Check.due("expected", desk.expected(), 4);
        Check.due("the last STATE", desk.stack(0), desk.move(0, 1));
        Check.due("the one ahead", desk.stack(1), desk.move(0, 0));
        Check.due("the first STATE", desk.stack(39), 0);
        Check.due("none more", desk.stack(40), Check.NOTHING);
        Check.due("c", desk.read(2), 39);
        dueStack(desk, desk.move(desk.move(0, 11), 2), desk.move(0, 11), 0);
    }

    /** "at any time": an EMPTY k, too, comes as a STATE, though the row would be shorter behind all REDUCES. */
    private static void mostStatesOfEmpties() {
        for (int n = 36; n <= 39; n++) {
            LalrDesk desk = Check.told("token a;token c;kind s;kind t;kind k;rule s t c;rule t a t;rule t a k;rule k;");
            reads(desk, 0, n);
            boolean is = n + 2 <= 40;
            Check.due("STATES READ", desk.count(9), n + 1);
            Check.due("c by an EMPTY k", desk.read(1), is ? n + 1 : Check.NOTHING);
            dueCounts(desk, is ? n + 1 : 0, is ? n + 1 : n, is ? 3 : n + 1);
        }
    }

    private static void mostStatesForEnd() {
        for (int n = 36; n <= 39; n++) {
            LalrDesk desk = Check.told("token a;kind t;kind k;rule t a t;rule t a k;rule k;");
            reads(desk, 0, n);
            Check.due("whole by an EMPTY k", desk.whole(), n + 2 <= 40 ? 1 : 0);
            LalrDesk without = Check.told("token a;kind t;rule t a t;rule t a;");
            reads(without, 0, n);
            Check.due("whole", without.whole(), 1);
        }
    }

    /** "Whether END would be ACCEPTED now (1, 0); NONE: there are no STATES." */
    private static void wholeOfNothingRead() {
        Check.due("by no SYMBOLS", Check.told("token a;kind s;rule s;").whole(), 1);
        Check.due("by an EMPTY one", Check.told("kind s;kind t;rule s t t;rule t;").whole(), 1);
        Check.due("by a TOKEN", Check.told("token a;kind s;rule s a;").whole(), 0);
        Check.due("by no RULES", Check.told("kind s;").whole(), 0);
        Check.due("without KINDS", Check.told("token a;").whole(), Check.NONE);
        Check.due("without a TEXT", new LalrDesk().whole(), Check.NONE);
    }

    /** What is asked of what is READ leaves it as it is. */
    private static void askingReadsNothing() {
        LalrDesk desk = Check.told(RIGHT);
        Check.read(desk, 0, 1);
        desk.keep();
        for (int round = 0; round < 3; round++) {
            Check.due("whole", desk.whole(), 0);
            Check.due("expected", desk.expected(), 4);
            Check.due("game", desk.game(4, 0), 0);
            Check.due("game", desk.game(1, 1), 2);
            Check.due("sentences", desk.sentences(2), 1);
            desk.missing();
            desk.ask(3, 0);
            desk.chance(1, 9);
            desk.tried(2, 2);
            dueCounts(desk, 0, 2, 3);
            Check.due("what can be undone", desk.count(13), 2);
            dueStack(desk, desk.move(0, 1), desk.move(0, 0), 0);
        }
        Check.due("c", desk.read(2), 2);
        Check.due("undo", desk.undo(), 2);
        Check.due("back", desk.back(), 3);
    }

    /** "k 0: the last one; -2: there are no so many; NONE: k is below 0, there are no STATES." */
    private static void stacks() {
        LalrDesk desk = Check.told(RIGHT);
        for (int read = 0; read <= 3; read++) {
            for (int k : new int[] {read + 1, read + 2, 39, 40, 41, Integer.MAX_VALUE}) {
                Check.due("stack(" + k + ")", desk.stack(k), Check.NOTHING);
            }
            for (int k : BELOW) {
                Check.due("stack(" + k + ")", desk.stack(k), Check.NONE);
            }
            Check.due("the first one", desk.stack(read), 0);
            Check.due("the last one", desk.stack(0), read == 0 ? 0 : desk.move(0, 0));
            Check.read(desk, 0);
        }
    }

    private static void stacksWithoutStates() {
        for (LalrDesk desk : new LalrDesk[] {new LalrDesk(), Check.told("token a;")}) {
            for (int k : new int[] {-1, 0, 1, 40, Integer.MAX_VALUE, Integer.MIN_VALUE}) {
                Check.due("stack(" + k + ")", desk.stack(k), Check.NONE);
            }
        }
        dueStack(Check.told("kind s;"), 0);
    }

    /** "who can't, loses": nothing can come; "who is to go when n have come, loses, too": when none have, of none. */
    private static void gamesOfNone() {
        LalrDesk desk = Check.told(RIGHT);
        Check.due("of none", desk.game(0, 0), 1);
        Check.due("of none", desk.game(0, 1), Check.NOTHING);
        Check.read(desk, 1, 2);
        for (LalrDesk stuck : new LalrDesk[] {desk, Check.told("kind s;rule s;"), Check.told("token a;kind s;")}) {
            Check.dueRow("who wins", n -> stuck.game(n, 0), 1, 1, 1, 1, 1, Check.NONE);
            Check.dueRow("by which", n -> stuck.game(n, 1), -2, -2, -2, -2, -2, Check.NONE);
        }
    }

    /** All can come at all times: who lets the last one of n come wins. */
    private static void gamesOfAll() {
        StringBuilder text = new StringBuilder("kind s;rule s;");
        for (char token = 'a'; token <= 'g'; token++) {
            text.insert(0, "token " + token + ";").append("rule s s ").append(token).append(';');
        }
        LalrDesk desk = Check.told(text.toString());
        for (int read = 0; read < 3; read++) {
            Check.dueRow("who wins", n -> desk.game(n, 0), 1, 0, 1, 0, 1, Check.NONE);
            Check.dueRow("by which", n -> desk.game(n, 1), -2, 0, -2, 0, -2, Check.NONE);
            Check.read(desk, 6);
        }
    }

    /** "the TOKEN who begins lets come first, the first by which he wins (-2: he can't win)". */
    private static void gamesByTheFirstToken() {
        LalrDesk desk = Check.told("token a;token b;token c;kind s;rule s a a a;rule s b;rule s c c;");
        // of two: a and a, then who began is to go; but behind b nothing can come
        Check.dueRow("who wins", n -> desk.game(n, 0), 1, 0, 0, 0, 0, Check.NONE);
        Check.dueRow("by which", n -> desk.game(n, 1), -2, 0, 1, 0, 0, Check.NONE);
        Check.read(desk, 0);
        Check.dueRow("behind a who wins", n -> desk.game(n, 0), 1, 0, 1, 1, 1, Check.NONE);
        Check.dueRow("behind a by which", n -> desk.game(n, 1), -2, 0, -2, -2, -2, Check.NONE);
        Check.read(desk, 0);
        Check.dueRow("behind a a who wins", n -> desk.game(n, 0), 1, 0, 0, 0, 0, Check.NONE);
        // of four: a a and who began can't go on; c a b, and the other one can't
        LalrDesk other = Check.told("token a;token b;token c;kind s;rule s a a;rule s c a b;");
        Check.dueRow("who wins", n -> other.game(n, 0), 1, 0, 1, 0, 0, Check.NONE);
        Check.dueRow("by which", n -> other.game(n, 1), -2, 0, -2, 2, 2, Check.NONE);
    }

    /** "NONE: no such ones, there are no STATES." */
    private static void noSuchGames() {
        LalrDesk[] desks = {Check.told(RIGHT), Check.told("token a;"), new LalrDesk()};
        for (LalrDesk desk : desks) {
            for (int n : new int[] {-1, -2, 5, 6, Integer.MAX_VALUE, Integer.MIN_VALUE}) {
                Check.due("game(" + n + ", 0)", desk.game(n, 0), Check.NONE);
                Check.due("game(" + n + ", 1)", desk.game(n, 1), Check.NONE);
            }
            for (int what : new int[] {-1, -2, 2, 3, Integer.MAX_VALUE, Integer.MIN_VALUE}) {
                Check.due("game(0, " + what + ")", desk.game(0, what), Check.NONE);
                Check.due("game(4, " + what + ")", desk.game(4, what), Check.NONE);
            }
        }
        for (int n = 0; n <= 4; n++) {
            Check.due("without STATES", desks[1].game(n, 0), Check.NONE);
            Check.due("without STATES", desks[1].game(n, 1), Check.NONE);
        }
    }

    /** "how many can be undone yet; NONE: none." */
    private static void undoOfNone() {
        LalrDesk desk = new LalrDesk();
        Check.due("of a new one", desk.undo(), Check.NONE);
        Check.due("text", Check.tell(desk, LEFT), 4);
        Check.due("of nothing READ", desk.undo(), Check.NONE);
        Check.read(desk, 0);
        Check.due("undo", desk.undo(), 0);
        for (int k = 0; k < 3; k++) {
            Check.due("none more", desk.undo(), Check.NONE);
            Check.due("what can be undone", desk.count(13), 0);
            dueStack(desk, 0);
        }
        Check.read(desk, 0);
        Check.due("what can be undone", desk.count(13), 1);
    }

    /** "(REDUCES, TOKENS READ, too)": the row of forty STATES is there again as it was. */
    private static void undoFromTheFullRow() {
        LalrDesk desk = Check.told(RIGHT);
        reads(desk, 0, 38);
        Check.read(desk, 1);
        Check.due("c", desk.read(2), 39);
        dueCounts(desk, 39, 40, 3);
        Check.due("undo", desk.undo(), 19);
        dueCounts(desk, 0, 39, 40);
        int[] due = new int[40];
        java.util.Arrays.fill(due, desk.move(0, 0));
        due[0] = desk.move(0, 1);
        due[39] = 0;
        dueStack(desk, due);
        Check.due("c once more", desk.read(2), 39);
        Check.due("undo", desk.undo(), 19);
        Check.due("undo", desk.undo(), 18);
        dueCounts(desk, 0, 38, 39);
        Check.due("the last one", desk.stack(0), desk.move(0, 0));
    }

    /** "the latest first (20 at most)": by the 21st the first one drops out. */
    private static void undoOfTwenty() {
        for (int read = 19; read <= 22; read++) {
            LalrDesk desk = Check.told(LEFT);
            reads(desk, 0, read);
            int most = Math.min(20, read);
            Check.due("what can be undone", desk.count(13), most);
            for (int left = most - 1; left >= 0; left--) {
                Check.due("undo", desk.undo(), left);
                int tokens = read - most + left;
                dueCounts(desk, Math.max(0, tokens - 1), tokens, tokens == 0 ? 1 : tokens == 1 ? 2 : 3);
            }
            Check.due("none more", desk.undo(), Check.NONE);
            Check.due("TOKENS READ", desk.count(8), read - most);
        }
    }

    /** What was READ again behind some undo() takes the places of what was undone. */
    private static void undoGoesRound() {
        LalrDesk desk = Check.told(RIGHT);
        reads(desk, 0, 25);
        for (int left = 19; left >= 13; left--) {
            Check.due("undo", desk.undo(), left);
        }
        dueCounts(desk, 0, 18, 19);
        reads(desk, 0, 9);
        Check.read(desk, 1);
        Check.due("what can be undone", desk.count(13), 20);
        for (int left = 19; left >= 0; left--) {
            Check.due("undo", desk.undo(), left);
            dueCounts(desk, 0, 8 + left, 9 + left);
            Check.due("the last one", desk.stack(0), desk.move(0, 0));
        }
        Check.due("none more", desk.undo(), Check.NONE);
        dueCounts(desk, 0, 8, 9);
    }

    private static void wrongIsNotUndone() {
        LalrDesk desk = Check.told(RIGHT);
        Check.read(desk, 0);
        Check.due("c", desk.read(2), Check.NOTHING);
        Check.due("no such TOKEN", desk.read(3), Check.NONE);
        Check.read(desk, 1);
        Check.due("a", desk.read(0), Check.NOTHING);
        Check.due("what can be undone", desk.count(13), 2);
        Check.due("undo of b", desk.undo(), 1);
        dueStack(desk, desk.move(0, 0), 0);
        Check.due("undo of a", desk.undo(), 0);
        dueStack(desk, 0);
    }

    /** "What is READ is as in the IMAGE": REDUCES and TOKENS READ, too; more than once; an undo() doesn't touch it. */
    private static void imageStays() {
        LalrDesk desk = Check.told(LEFT);
        Check.due("back", desk.back(), Check.NONE);
        reads(desk, 0, 3);
        Check.due("keep", desk.keep(), 3);
        dueCounts(desk, 2, 3, 3);
        Check.due("what can be undone stays", desk.count(13), 3);
        Check.due("undo", desk.undo(), 2);
        Check.due("undo", desk.undo(), 1);
        Check.due("undo", desk.undo(), 0);
        Check.due("back", desk.back(), 3);
        dueCounts(desk, 2, 3, 3);
        for (int times = 1; times <= 3; times++) {
            reads(desk, 0, 5 * times);
            Check.due("back", desk.back(), 3);
            dueCounts(desk, 2, 3, 3);
        }
        Check.due("the same row", desk.stack(0), desk.move(desk.move(0, 10), 0));
    }

    private static void imageOfTheFullRow() {
        LalrDesk desk = Check.told(RIGHT);
        reads(desk, 0, 38);
        Check.read(desk, 1);
        Check.due("keep", desk.keep(), 40);
        Check.due("c", desk.read(2), 39);
        Check.due("back", desk.back(), 40);
        dueCounts(desk, 0, 39, 40);
        Check.due("the last one", desk.stack(0), desk.move(0, 1));
        Check.due("the one ahead", desk.stack(1), desk.move(0, 0));
        Check.due("the first one", desk.stack(39), 0);
        Check.due("c", desk.read(2), 39);
    }

    /** "An IMAGE is kept (in place of one ahead)". */
    private static void imageIsReplaced() {
        LalrDesk desk = Check.told(RIGHT);
        Check.due("keep of nothing READ", desk.keep(), 1);
        reads(desk, 0, 4);
        Check.due("keep", desk.keep(), 5);
        Check.read(desk, 0);
        Check.due("back to the later one", desk.back(), 5);
        Check.due("TOKENS READ", desk.count(8), 4);
        Check.read(desk, 1);
        Check.due("keep", desk.keep(), 6);
        Check.due("back", desk.back(), 6);
        Check.due("the last one", desk.stack(0), desk.move(0, 1));
    }

    /** "(nothing to undo then)". */
    private static void backLeavesNothingToUndo() {
        LalrDesk desk = Check.told(LEFT);
        reads(desk, 0, 30);
        desk.keep();
        Check.due("what can be undone", desk.count(13), 20);
        Check.due("back", desk.back(), 3);
        Check.due("what can be undone", desk.count(13), 0);
        Check.due("undo", desk.undo(), Check.NONE);
        Check.due("TOKENS READ", desk.count(8), 30);
        reads(desk, 0, 2);
        Check.due("undo", desk.undo(), 1);
        Check.due("undo", desk.undo(), 0);
        Check.due("undo", desk.undo(), Check.NONE);
        Check.due("TOKENS READ", desk.count(8), 30);
    }

    private static void imageOfNoStates() {
        for (LalrDesk desk : new LalrDesk[] {new LalrDesk(), Check.told("token a;")}) {
            Check.due("back", desk.back(), Check.NONE);
            Check.due("keep", desk.keep(), 0);
            Check.due("back", desk.back(), 0);
            dueCounts(desk, 0, 0, 0);
            Check.due("stack(0)", desk.stack(0), Check.NONE);
        }
    }

    /** "no IMAGE" behind a TEXT; a FAULT and a -2 leave it. */
    private static void imageOfTexts() {
        LalrDesk desk = Check.told(RIGHT);
        reads(desk, 0, 2);
        desk.keep();
        Check.read(desk, 0);
        Check.due("text(1)", desk.text(1), Check.NOTHING);
        Check.due("a FAULT", Check.tell(desk, "token"), Check.NONE);
        Check.due("what can be undone", desk.count(13), 3);
        Check.due("back", desk.back(), 3);
        Check.due("text", Check.tell(desk, RIGHT), 8);
        Check.due("back", desk.back(), Check.NONE);
        dueStack(desk, 0);
    }

    /** "An object is used for at most 512 calls": the last of them answers as all others. */
    private static void lastOfManyCalls() {
        int[] due = {507, 508, 3, 20, 20};
        for (int what = 0; what < due.length; what++) {
            LalrDesk desk = new LalrDesk();
            Check.feed(desk, LEFT);
            Check.due("text", desk.text(LEFT.length()), 4);
            reads(desk, 0, 508);
            int got = what < 3 ? desk.count(7 + what) : what == 3 ? desk.count(13) : desk.undo() + 1;
            Check.due("the 512th call", got, due[what]);
        }
    }
}
