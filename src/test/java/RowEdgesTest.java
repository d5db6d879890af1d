/** Promises 18 to 22 and 33 and what Terms 3 says of them: the boundaries that their sentences name. */
public final class RowEdgesTest {
    private static final int[] FAR = {-2, -1000, Integer.MIN_VALUE};

    public static void main(String[] args) {
        shortestOfMost();
        shortestByOrder();
        shortestOfNothing();
        witnessOfMost();
        witnessOfMostAndNothing();
        witnessByOrder();
        witnessOfNothing();
        witnessThroughEmpties();
        noSuchTokens();
        eightActions();
        withoutActions();
        leastOffsets();
        noSuchPlaces();
        sentencesOfMost();
        sentencesOfFew();
        sentencesBeyondTheRow();
        noSuchSentences();
        chancesOfMost();
        chancesAreNotRead();
        noSuchChances();
        Check.end();
    }

    /** A text whose KIND s stands for one row of so many TOKENS, 36 .. 43: u for 16, v for 4, w for the rest. */
    private static String longRow(int tokens) {
        int rest = tokens - 36;
        return "token a;kind s;kind t;kind u;kind v;kind w;rule s u u t;rule t v w;rule u v v v v;rule v a a a a;"
            + "rule w" + (rest >= 4 ? " v" : "") + " a".repeat(rest % 4) + ";";
    }

    /** "none, if it has more than 40." */
    private static void shortestOfMost() {
        for (int tokens = 36; tokens <= 43; tokens++) {
            LalrDesk desk = Check.told(longRow(tokens));
            boolean is = tokens <= 40;
            Check.due("SHORTEST of " + tokens, desk.kind(0, 4), is ? tokens : Check.NOTHING);
            Check.due("the first one", desk.shortest(0, 0), is ? 0 : Check.NOTHING);
            Check.due("the last one", desk.shortest(0, tokens - 1), is ? 0 : Check.NOTHING);
            Check.due("one more", desk.shortest(0, tokens), Check.NOTHING);
            // STATE by s: its KIND's MOVE with SHORTEST of it, none if that has none
            Check.due("to the STATE", desk.state(desk.move(0, 10), 3), is ? tokens : Check.NOTHING);
        }
        // the other way round it is shorter, be it told behind the long one or ahead of it
        Check.due("shorter", Check.told(longRow(43) + "rule s a a a;").kind(0, 4), 3);
        Check.due("shorter", Check.told(longRow(43).replace("rule s", "rule s;rule s")).kind(0, 4), 0);
    }

    /** "that is shortest, of several the first by TOKENS in order". */
    private static void shortestByOrder() {
        LalrDesk desk = Check.told("token a;token b;token c;token d;token e;token f;token g;kind s;kind t;"
            + "rule s g a;rule s b g;rule s b t;rule s a b c;rule s c;rule t g;rule t f;");
        Check.dueRow("the shortest", k -> desk.shortest(0, k), 2, Check.NOTHING);
        LalrDesk same = Check.told("token a;token b;token c;token d;token e;token f;token g;kind s;kind t;"
            + "rule s g a;rule s b g;rule s b t;rule s a b c;rule t g;rule t f;");
        Check.dueRow("the first by TOKENS", k -> same.shortest(0, k), 1, 5, Check.NOTHING);
        // by the numbers of the TOKENS, not by their names, nor by the order of the RULES
        LalrDesk names = Check.told("token z;token a;kind s;rule s a z;rule s z a;rule s a a;");
        Check.dueRow("the first by numbers", k -> names.shortest(0, k), 0, 1, Check.NOTHING);
    }

    private static void shortestOfNothing() {
        LalrDesk desk = Check.told("token a;kind s;kind t;kind u;rule s;rule s a;rule t t a;rule u t;");
        Check.due("of no TOKENS", desk.kind(0, 4), 0);
        Check.dueRow("none", kind -> desk.shortest(kind, 0), Check.NOTHING, Check.NOTHING, Check.NOTHING, Check.NONE);
        Check.due("no row", desk.kind(1, 4), Check.NOTHING);
        Check.due("no row of its part", desk.kind(2, 4), Check.NOTHING);
    }

    /** "60 at most": t stands for 20 TOKENS, x for 5, v for 4, w for 19 .. 22; behind t t w comes b. */
    private static void witnessOfMost() {
        String[] rows = {"x x x v", "x x x x", "t a", "t a a"};
        for (int k = 0; k < rows.length; k++) {
            LalrDesk desk = Check.told("token a;token b;kind s;kind t;kind v;kind w;kind x;rule s t t w b;rule t x x x x;"
                + "rule x a v;rule v a a a a;rule w " + rows[k] + ";");
            int behind = desk.move(desk.move(desk.move(0, 11), 11), 13);
            int last = desk.move(behind, 1);
            int tokens = 59 + k;
            boolean is = tokens <= 60;
            Check.due("SHORTEST of " + tokens, desk.state(behind, 3), is ? tokens : Check.NOTHING);
            Check.due("the last one", desk.witness(behind, tokens - 1), is ? 0 : Check.NOTHING);
            Check.due("one more", desk.witness(behind, tokens), Check.NOTHING);
            boolean isLast = tokens + 1 <= 60;
            Check.due("with b", desk.state(last, 3), isLast ? tokens + 1 : Check.NOTHING);
            Check.due("b", desk.witness(last, tokens), isLast ? 1 : Check.NOTHING);
            Check.due("the first one", desk.witness(last, 0), isLast ? 0 : Check.NOTHING);
            Check.due("one more than b", desk.witness(last, tokens + 1), Check.NOTHING);
        }
    }

    /** 60 TOKENS, and behind them an EMPTY KIND: w stands for 40, v for 16, q and r for four of which the last one differs. */
    private static void witnessOfMostAndNothing() {
        LalrDesk desk = Check.told("token a;token b;kind s;kind w;kind v;kind q;kind r;rule s;rule s w v q s;rule s w v r s;"
            + "rule w v v r r;rule v r r r r;rule q a a a b;rule r a a a a;");
        int behind = desk.move(desk.move(0, 11), 12);
        Check.due("56 TOKENS", desk.state(behind, 3), 56);
        for (int kind = 13; kind <= 14; kind++) {
            int full = desk.move(behind, kind);
            int further = desk.move(full, 10);
            for (int state : new int[] {full, further}) {
                Check.due("60 TOKENS", desk.state(state, 3), 60);
                Check.due("the last one", desk.witness(state, 59), kind == 13 ? 1 : 0);
                Check.due("the one ahead", desk.witness(state, 58), 0);
                Check.due("none more", desk.witness(state, 60), Check.NOTHING);
            }
        }
    }

    /** "likewise": of several rows as short the first by TOKENS, be the KIND it comes by behind the TOKENS. */
    private static void witnessByOrder() {
        LalrDesk desk = Check.told("token a;token b;token c;token d;kind s;kind u;kind t;rule s b t;rule s u t;rule u a;rule t c d;");
        Check.due("by b to the same STATE", desk.move(desk.move(0, 1), 2), 5);
        Check.due("as by u", desk.move(desk.move(0, 11), 2), 5);
        Check.dueRow("a c", k -> desk.witness(5, k), 0, 2, Check.NOTHING);
        int last = desk.move(5, 3);
        Check.dueRow("a c d", k -> desk.witness(last, k), 0, 2, 3, Check.NOTHING);
        // c c is not ahead of b d, nor b d of a d: by the first TOKEN that is another one
        LalrDesk longer = Check.told("token a;token b;token c;token d;kind s;kind u;kind v;kind t;rule s c c t;rule s u t;rule s v t;"
            + "rule u b d;rule v a d;rule t d;");
        int whole = longer.move(longer.move(longer.move(0, 2), 2), 3);
        Check.due("one STATE", longer.move(longer.move(0, 11), 3), whole);
        Check.dueRow("a d d", k -> longer.witness(whole, k), 0, 3, 3, Check.NOTHING);
    }

    /** "-2: there are no so many, there is none such"; of STATE 0 it has no TOKENS. */
    private static void witnessOfNothing() {
        LalrDesk desk = Check.told("token a;kind s;kind t;rule s t a;rule t t a;");
        Check.dueRow("SHORTEST", state -> desk.state(state, 3), 0, -2, -2, -2, Check.NONE);
        Check.dueRow("the first one", state -> desk.witness(state, 0), -2, -2, -2, -2, Check.NONE);
    }

    private static void witnessThroughEmpties() {
        LalrDesk desk = Check.told("token a;token b;kind s;kind k;rule s k a k b;rule k;rule k b;");
        int[] way = {11, 0, 11, 1};
        int[] due = {0, 1, 1, 2};
        int state = 0;
        for (int step = 0; step < way.length; step++) {
            state = desk.move(state, way[step]);
            Check.due("SHORTEST", desk.state(state, 3), due[step]);
            Check.due("one more", desk.witness(state, due[step]), Check.NOTHING);
        }
        int last = state;
        Check.dueRow("a b", k -> desk.witness(last, k), 0, 1, Check.NOTHING);
    }

    /** "NONE: no such STATE (KIND), k is below 0." */
    private static void noSuchTokens() {
        for (LalrDesk desk : new LalrDesk[] {Check.told("token a;kind s;rule s a;"), Check.told("kind s;"), new LalrDesk()}) {
            for (int far : FAR) {
                Check.due("witness(0, " + far + ")", desk.witness(0, far), Check.NONE);
                Check.due("shortest(0, " + far + ")", desk.shortest(0, far), Check.NONE);
                Check.due("witness(" + far + ", 0)", desk.witness(far, 0), Check.NONE);
                Check.due("shortest(" + far + ", 0)", desk.shortest(far, 0), Check.NONE);
            }
            Check.due("witness(0, -1)", desk.witness(0, -1), Check.NONE);
            Check.due("shortest(0, -1)", desk.shortest(0, -1), Check.NONE);
            Check.due("witness(-1, 0)", desk.witness(-1, 0), Check.NONE);
            Check.due("shortest(-1, 0)", desk.shortest(-1, 0), Check.NONE);
            Check.due("no such STATE", desk.witness(desk.count(3), 0), Check.NONE);
            Check.due("no such KIND", desk.shortest(desk.count(1), 0), Check.NONE);
            Check.due("no such KIND", desk.shortest(10, 0), Check.NONE);
            Check.due("MAX", desk.witness(Integer.MAX_VALUE, Integer.MAX_VALUE), Check.NONE);
            Check.due("MAX", desk.shortest(Integer.MAX_VALUE, Integer.MAX_VALUE), Check.NONE);
        }
    }

    /** As many ACTIONS as one STATE can have: seven TOKENS and END. */
    private static void eightActions() {
        StringBuilder text = new StringBuilder("kind s;rule s;");
        for (char token = 'a'; token <= 'g'; token++) {
            text.insert(0, "token " + token + ";").append("rule s s ").append(token).append(';');
        }
        LalrDesk desk = Check.told(text.toString());
        Check.due("STATES", desk.count(3), 9);
        for (int state = 0; state < 9; state++) {
            Check.due("ACTIONS", desk.state(state, 4), 8);
            Check.due("OFFSET", desk.offset(state), 8 * state);
            for (int terminal = 0; terminal < 8; terminal++) {
                Check.due("ACTION", desk.packed(8 * state + terminal, 0), desk.action(state, terminal));
                Check.due("STATE", desk.packed(8 * state + terminal, 1), state);
            }
        }
        Check.due("of STATE 1 by END", desk.packed(15, 0), 3000);
        Check.due("the last PLACE and one", desk.count(10), 72);
        Check.due("none behind", desk.packed(72, 0), Check.NOTHING);
        Check.due("none behind", desk.packed(72, 1), Check.NOTHING);
    }

    /** "(0 of one without ACTIONS)". */
    private static void withoutActions() {
        LalrDesk desk = Check.told("token a;token b;kind s;kind t;rule s a t;rule s b;");
        int a = desk.move(0, 0);
        Check.due("ACTIONS", desk.state(a, 4), 0);
        Check.due("OFFSET", desk.offset(a), 0);
        // a TEXT ahead with other OFFSETS
        Check.due("text", Check.tell(desk, "token a;token b;token c;kind s;rule s a b c;rule s b;"), 6);
        Check.due("text", Check.tell(desk, "token a;kind s;kind t;rule s t t t;"), 4);
        // ACCEPT of STATE 1 at PLACE 1, the REDUCE of STATE 4 behind it
        Check.dueRow("OFFSET", desk::offset, 0, 0, 0, 0, 1, Check.NONE);
        Check.due("the last PLACE and one", desk.count(10), 3);
    }

    /** "at the least OFFSET from 0 on at which none of these is taken": never below 0, though its first PLACES were free. */
    private static void leastOffsets() {
        // STATE 0: SHIFT of c; by s ACCEPT (END is 3), by c REDUCE at END
        LalrDesk desk = Check.told("token a;token b;token c;kind s;rule s c;");
        Check.dueRow("OFFSET", desk::offset, 0, 0, 1, Check.NONE);
        Check.dueRow("ACTION", k -> desk.packed(k, 0), -2, -2, 1001, 2000, 3000, -2);
        Check.dueRow("STATE", k -> desk.packed(k, 1), -2, -2, 0, 1, 2, -2);
        Check.due("the last PLACE and one", desk.count(10), 5);
    }

    /** "Of a PLACE 0 .. 999 .. (-2 of both: none). NONE: no such ones." */
    private static void noSuchPlaces() {
        for (LalrDesk desk : new LalrDesk[] {Check.told(StatesTest.HANGING), new LalrDesk()}) {
            for (int place : new int[] {-1, -2, 1000, 1001, Integer.MAX_VALUE, Integer.MIN_VALUE}) {
                for (int what = -1; what <= 2; what++) {
                    Check.due("packed(" + place + ", " + what + ")", desk.packed(place, what), Check.NONE);
                }
            }
            for (int place : new int[] {0, 13, 400, 999}) {
                for (int what : new int[] {-1, 2, 3, Integer.MAX_VALUE, Integer.MIN_VALUE}) {
                    Check.due("packed(" + place + ", " + what + ")", desk.packed(place, what), Check.NONE);
                }
            }
            for (int place : new int[] {13, 383, 384, 399, 400, 998, 999}) {
                Check.due("packed(" + place + ", 0)", desk.packed(place, 0), Check.NOTHING);
                Check.due("packed(" + place + ", 1)", desk.packed(place, 1), Check.NOTHING);
            }
        }
    }

    /** "How many rows of n TOKENS (0 .. 4) are SENTENCES": of seven all, and without the last one all others. */
    private static void sentencesOfMost() {
        StringBuilder text = new StringBuilder("kind s;rule s;");
        for (char token = 'a'; token <= 'f'; token++) {
            text.insert(0, "token " + token + ";").append("rule s ").append(token).append(" s;");
        }
        Check.dueRow("of six", Check.told(text.toString())::sentences, 1, 6, 36, 216, 1296, Check.NONE);
        LalrDesk seven = Check.told("token g;" + text);
        Check.dueRow("of seven without one", seven::sentences, 1, 6, 36, 216, 1296, Check.NONE);
        LalrDesk all = Check.told("token g;" + text + "rule s g s;");
        Check.dueRow("of seven", all::sentences, 1, 7, 49, 343, 2401, Check.NONE);
    }

    private static void sentencesOfFew() {
        LalrDesk desk = Check.told("token a;token b;kind s;rule s;rule s a b a b;rule s b b b b;rule s a a a;");
        Check.dueRow("sentences", desk::sentences, 1, 0, 0, 1, 2, Check.NONE);
        LalrDesk bare = Check.told("token a;kind s;");
        Check.dueRow("sentences", bare::sentences, 0, 0, 0, 0, 0, Check.NONE);
    }

    /** "if all of them come one behind another from STATE 0 alone on": not from what is READ, be its row full. */
    private static void sentencesBeyondTheRow() {
        LalrDesk desk = Check.told("token a;kind s;rule s a s;rule s a;");
        for (int k = 0; k < 39; k++) {
            Check.read(desk, 0);
        }
        Check.due("no TOKEN more", desk.expected(), 0);
        Check.dueRow("sentences", desk::sentences, 0, 1, 1, 1, 1, Check.NONE);
        Check.due("chance", desk.chance(5, 9), 10);
        Check.due("STATES READ", desk.count(9), 40);
    }

    private static void noSuchSentences() {
        for (LalrDesk desk : new LalrDesk[] {Check.told(StatesTest.HANGING), Check.told("token a;"), new LalrDesk()}) {
            for (int n : new int[] {-1, -2, 5, 6, Integer.MAX_VALUE, Integer.MIN_VALUE}) {
                Check.due("sentences(" + n + ")", desk.sentences(n), Check.NONE);
            }
        }
    }

    /** "at first the seed 0 .. 2147483647", "of n TOKENS 1 .. 9": drawn here once more, by numbers of more bits. */
    private static void chancesOfMost() {
        String text = "token a;token b;kind s;rule s s b;rule s s a a;rule s;";
        for (int seed : new int[] {0, 1, 65535, 65536, 1 << 30, Integer.MAX_VALUE - 1, Integer.MAX_VALUE}) {
            LalrDesk desk = Check.told(text);
            for (int n = 1; n <= 9; n++) {
                Check.due("chance(" + seed + ", " + n + ")", desk.chance(seed, n), drawn(seed, n));
            }
        }
        // of one TOKEN alone all rows are the same
        LalrDesk even = Check.told("token a;kind s;rule s s a a;rule s;");
        for (int n = 1; n <= 9; n++) {
            Check.due("of one", even.chance(Integer.MAX_VALUE, n), n % 2 == 0 ? 10 : 0);
        }
    }

    /** How many of ten rows have their a in pairs alone. */
    private static int drawn(int seed, int n) {
        long last = seed;
        int sum = 0;
        for (int row = 0; row < 10; row++) {
            boolean odd = false;
            boolean wrong = false;
            for (int k = 0; k < n; k++) {
                last = (last * 1103515245L + 12345L) % 2147483648L;
                boolean isB = last / 65536L % 2 == 1;
                wrong = wrong || isB && odd;
                odd = !isB && !odd;
            }
            sum += wrong || odd ? 0 : 1;
        }
        return sum;
    }

    private static void chancesAreNotRead() {
        LalrDesk desk = Check.told("token a;token b;kind s;rule s s b;rule s s a a;rule s;");
        Check.read(desk, 0);
        int first = desk.chance(3, 2);
        Check.due("the same once more", desk.chance(3, 2), first);
        Check.due("as from nothing READ", first, drawn(3, 2));
        Check.due("TOKENS READ", desk.count(8), 1);
    }

    /** "-2: there are no TOKENS; NONE: no such ones": "Of several answers that hold NONE goes first." */
    private static void noSuchChances() {
        LalrDesk[] desks = {Check.told(StatesTest.HANGING), Check.told("token a;"), Check.told("kind s;rule s;"), new LalrDesk()};
        for (LalrDesk desk : desks) {
            for (int seed : new int[] {-1, -2, Integer.MIN_VALUE}) {
                for (int n = 0; n <= 10; n++) {
                    Check.due("chance(" + seed + ", " + n + ")", desk.chance(seed, n), Check.NONE);
                }
            }
            for (int n : new int[] {-1, 0, 10, 11, Integer.MAX_VALUE, Integer.MIN_VALUE}) {
                Check.due("chance(0, " + n + ")", desk.chance(0, n), Check.NONE);
                Check.due("chance(MAX, " + n + ")", desk.chance(Integer.MAX_VALUE, n), Check.NONE);
            }
            if (desk.count(0) == 0) {
                Check.due("no TOKENS", desk.chance(0, 1), Check.NOTHING);
                Check.due("no TOKENS", desk.chance(Integer.MAX_VALUE, 9), Check.NOTHING);
            }
        }
        Check.due("no STATES", desks[1].chance(0, 1), 0);
        Check.due("no STATES", desks[1].chance(Integer.MAX_VALUE, 9), 0);
    }
}
