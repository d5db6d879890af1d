/** Promises 18 to 22 and 33: shortest rows, packed tables, sentences, rows by chance. */
public final class RowsTest {
    public static void main(String[] args) {
        witnesses();
        witnessesByKinds();
        witnessesShortenedLate();
        longestWitnesses();
        shortests();
        longestShortests();
        offsets();
        places();
        placesOfNothing();
        sentences();
        sentencesOfMany();
        chances();
        Check.end();
    }

    private static void dueWitness(LalrDesk desk, int state, int... row) {
        Check.dueRow("witness of " + state, k -> desk.witness(state, k), row);
        Check.due("one more of " + state, desk.witness(state, row.length), Check.NOTHING);
        Check.due("MAX of " + state, desk.witness(state, Integer.MAX_VALUE), Check.NOTHING);
        Check.due("one below of " + state, desk.witness(state, -1), Check.NONE);
    }

    private static void dueShortest(LalrDesk desk, int kind, int... row) {
        Check.dueRow("shortest of " + kind, k -> desk.shortest(kind, k), row);
        Check.due("one more of " + kind, desk.shortest(kind, row.length), Check.NOTHING);
        Check.due("MAX of " + kind, desk.shortest(kind, Integer.MAX_VALUE), Check.NOTHING);
        Check.due("one below of " + kind, desk.shortest(kind, -1), Check.NONE);
    }

    private static void witnesses() {
        LalrDesk desk = Check.told(StatesTest.HANGING);
        dueWitness(desk, 0);
        dueWitness(desk, 1, 0);
        dueWitness(desk, 2, 2);
        dueWitness(desk, 3, 2);
        dueWitness(desk, 4, 0, 2);
        dueWitness(desk, 5, 0, 2, 1);
        dueWitness(desk, 6, 0, 2, 1, 2);
        for (int k : Check.WRONG) {
            Check.due("witness(" + k + ", 0)", desk.witness(k, 0), Check.NONE);
        }
        Check.due("witness(7, 0)", desk.witness(7, 0), Check.NONE);
        Check.due("witness(7, -1)", desk.witness(7, -1), Check.NONE);
        Check.due("witness(0, 0)", new LalrDesk().witness(0, 0), Check.NONE);
    }

    private static void witnessesByKinds() {
        // to one STATE by three ways: t is x x, u is w, v is x: behind all of them comes z
        String text = "token w;token x;token z;kind s;kind t;kind u;rule s t z;rule s u z;rule s x s w;rule t x x;rule t w;"
            + "rule u;rule u u;";
        LalrDesk desk = Check.told(text);
        dueWitness(desk, desk.move(0, 11), 0);
        dueWitness(desk, desk.move(0, 12));
        dueWitness(desk, desk.move(desk.move(0, 12), 2), 2);
        dueWitness(desk, desk.move(desk.move(0, 11), 2), 0, 2);
        // t has no row, so there is none to the STATE behind it, nor any further
        LalrDesk none = Check.told("token a;kind s;kind t;rule s t a;rule s a;rule t t a;");
        dueWitness(none, none.move(0, 11));
        Check.due("none", none.state(none.move(0, 11), 3), Check.NOTHING);
        dueWitness(none, none.move(none.move(0, 11), 0));
        dueWitness(none, none.move(0, 10), 0);
        // by a longer way through more STATES, but with fewer TOKENS
        LalrDesk way = Check.told("token a;token b;kind s;kind t;kind u;rule s t u u b;rule s a a a;rule t a a a;rule u;rule u t;");
        int behind = way.move(way.move(way.move(0, 11), 12), 12);
        dueWitness(way, behind, 0, 0, 0);
        dueWitness(way, way.move(behind, 1), 0, 0, 0, 1);
    }

    /** A STATE with a low number and a long row is shortened by one with a greater number, and all behind it, too. */
    private static void witnessesShortenedLate() {
        LalrDesk desk = Check.told("token a;token b;token c;token d;kind s;kind k;kind w;rule s k w;rule s a b c w;"
            + "rule k d d d d;rule w b a;");
        int behind = desk.move(desk.move(0, 11), 1);
        Check.due("numbered ahead of where the shorter row comes from", behind < desk.move(desk.move(desk.move(0, 0), 1), 2), true);
        dueWitness(desk, behind, 0, 1, 2, 1);
        dueWitness(desk, desk.move(behind, 0), 0, 1, 2, 1, 0);
    }

    /** h stands for 40 TOKENS, j for 16, k for 4. */
    private static final String LONG = "token a;token b;kind s;kind h;kind j;kind k;rule h j j k k;rule j k k k k;rule k b b b b;";

    private static void longestWitnesses() {
        LalrDesk desk = Check.told(LONG + "rule s h j k a;");
        int behind = desk.move(desk.move(desk.move(0, 11), 12), 13);
        Check.due("60 TOKENS", desk.state(behind, 3), 60);
        Check.due("the last one", desk.witness(behind, 59), 1);
        Check.due("none more", desk.witness(behind, 60), Check.NOTHING);
        int further = desk.move(behind, 0);
        Check.due("61 TOKENS", desk.state(further, 3), Check.NOTHING);
        Check.due("none", desk.witness(further, 0), Check.NOTHING);
        Check.due("s has 61", desk.state(desk.move(0, 10), 3), Check.NOTHING);
    }

    private static void shortests() {
        LalrDesk desk = Check.told("token a;token b;token c;kind s;kind t;kind u;rule s t u;rule s c b;rule s c;rule t b;rule t c;"
            + "rule u t;rule u;");
        dueShortest(desk, 0, 1);
        dueShortest(desk, 1, 1);
        dueShortest(desk, 2);
        for (int k : Check.WRONG) {
            Check.due("shortest(" + k + ", 0)", desk.shortest(k, 0), Check.NONE);
        }
        Check.due("shortest(3, 0)", desk.shortest(3, 0), Check.NONE);
        Check.due("shortest(10, 0)", desk.shortest(10, 0), Check.NONE);
        Check.due("shortest(3, -1)", desk.shortest(3, -1), Check.NONE);
        Check.due("shortest(0, 0)", new LalrDesk().shortest(0, 0), Check.NONE);
        // of several the first by TOKENS, be its RULE the last one
        LalrDesk order = Check.told("token a;token b;token c;kind s;kind t;rule s c a a;rule s b t t;rule s b t c;rule t c;rule t b;");
        dueShortest(order, 0, 1, 1, 1);
        // by itself a KIND stands for no row
        LalrDesk round = Check.told("token a;kind s;kind t;rule s s;rule s t;rule t t a;rule t s;");
        dueShortest(round, 0);
        Check.due("none", round.state(round.move(0, 10), 3), Check.NOTHING);
    }

    private static void longestShortests() {
        LalrDesk desk = Check.told(LONG + "rule s h a;rule s a h a a;");
        Check.due("40 TOKENS", desk.shortest(1, 39), 1);
        Check.due("none more", desk.shortest(1, 40), Check.NOTHING);
        dueShortest(desk, 0);
        LalrDesk other = Check.told(LONG + "rule s h a;rule s s;rule s h k k;rule s j j k a;");
        Check.due("37 TOKENS", other.shortest(0, 36), 0);
        Check.due("none more", other.shortest(0, 37), Check.NOTHING);
    }

    private static void offsets() {
        LalrDesk desk = Check.told(StatesTest.HANGING);
        Check.dueRow("offset", desk::offset, 0, 1, 3, 9, 4, 8, 8, Check.NONE);
        for (int k : Check.WRONG) {
            Check.due("offset(" + k + ")", desk.offset(k), Check.NONE);
        }
        Check.due("offset(0)", new LalrDesk().offset(0), Check.NONE);
        // STATE 0 has no ACTION at all, STATE 1 one
        LalrDesk bare = Check.told("token a;kind s;");
        Check.dueRow("offset", bare::offset, 0, 0, Check.NONE);
        Check.dueRow("packed", k -> bare.packed(k, 0), -2, 3000, -2);
        Check.dueRow("packed", k -> bare.packed(k, 1), -2, 1, -2);
        // without ACTIONS 0, though all about it is taken
        LalrDesk second = Check.told("token a;token b;kind s;kind t;rule s a b t;rule s b;");
        int last = second.move(second.move(0, 0), 1);
        Check.due("ACTIONS", second.state(last, 4), 0);
        Check.due("offset", second.offset(last), 0);
    }

    private static void places() {
        LalrDesk desk = Check.told(StatesTest.HANGING);
        Check.dueRow("packed", k -> desk.packed(k, 0),
            1001, 1001, 1002, 1002, 2002, 1005, 2002, 2000, 1001, 2001, 1002, 2001, 3000, -2);
        Check.dueRow("packed", k -> desk.packed(k, 1), 0, 1, 0, 1, 2, 4, 2, 4, 5, 6, 5, 6, 3, -2);
        Check.due("the last PLACE and one", desk.count(10), 13);
        Check.due("packed(999, 0)", desk.packed(999, 0), Check.NOTHING);
        Check.due("packed(999, 1)", desk.packed(999, 1), Check.NOTHING);
        Check.due("packed(1000, 0)", desk.packed(1000, 0), Check.NONE);
        Check.due("packed(0, 2)", desk.packed(0, 2), Check.NONE);
        for (int k : Check.WRONG) {
            Check.due("packed(" + k + ", 0)", desk.packed(k, 0), Check.NONE);
            Check.due("packed(0, " + k + ")", desk.packed(0, k), Check.NONE);
        }
    }

    private static void placesOfNothing() {
        LalrDesk desk = Check.told(StatesTest.HANGING);
        Check.due("text", Check.tell(desk, ""), 0);
        Check.due("packed(0, 0)", desk.packed(0, 0), Check.NOTHING);
        Check.due("packed(0, 1)", desk.packed(0, 1), Check.NOTHING);
        Check.due("packed(-1, 0)", desk.packed(-1, 0), Check.NONE);
        Check.due("count(10)", desk.count(10), 0);
    }

    private static void sentences() {
        LalrDesk desk = Check.told(StatesTest.HANGING);
        Check.dueRow("sentences", desk::sentences, 0, 1, 1, 1, 2, Check.NONE);
        for (int k : Check.WRONG) {
            Check.due("sentences(" + k + ")", desk.sentences(k), Check.NONE);
        }
        // from STATE 0 alone on, whatever is READ
        Check.read(desk, 0);
        Check.dueRow("sentences", desk::sentences, 0, 1, 1, 1, 2);
        Check.due("READ", desk.count(8), 1);
        LalrDesk none = Check.told("token a;");
        Check.dueRow("sentences", none::sentences, 0, 0, 0, 0, 0, Check.NONE);
        LalrDesk empty = Check.told("token a;kind s;rule s;rule s s a;");
        Check.dueRow("sentences", empty::sentences, 1, 1, 1, 1, 1);
    }

    private static void sentencesOfMany() {
        StringBuilder text = new StringBuilder("kind s;rule s;");
        for (char token = 'a'; token <= 'g'; token++) {
            text.insert(0, "token " + token + ";");
        }
        for (char token = 'a'; token <= 'g'; token++) {
            text.append("rule s s ").append(token).append(';');
        }
        LalrDesk desk = Check.told(text.toString());
        Check.dueRow("sentences", desk::sentences, 1, 7, 49, 343, 2401);
    }

    /** Drawn once more here, with numbers of more bits and each row asked of a desk of its own. */
    private static int drawn(String text, int tokens, int seed, int n) {
        int sum = 0;
        long last = seed;
        for (int row = 0; row < 10; row++) {
            LalrDesk desk = Check.told(text);
            boolean right = true;
            for (int k = 0; k < n; k++) {
                last = (last * 1103515245L + 12345L) % 2147483648L;
                right = right && desk.read((int) (last / 65536L % tokens)) >= 0;
            }
            sum += right ? desk.whole() : 0;
        }
        return sum;
    }

    private static void chances() {
        String sums = "token n;token p;kind e;rule e e p e;rule e n;";
        LalrDesk desk = Check.told(sums);
        LalrDesk hanging = Check.told(StatesTest.HANGING);
        for (int seed : new int[] {0, 1, 2, 65535, 65536, 1103515245, Integer.MAX_VALUE - 1, Integer.MAX_VALUE}) {
            for (int n = 1; n <= 9; n++) {
                Check.due("chance(" + seed + ", " + n + ")", desk.chance(seed, n), drawn(sums, 2, seed, n));
                Check.due("chance(" + seed + ", " + n + ")", hanging.chance(seed, n), drawn(StatesTest.HANGING, 3, seed, n));
            }
        }
        for (int n : new int[] {-1, 0, 10, Integer.MAX_VALUE, Integer.MIN_VALUE}) {
            Check.due("chance(1, " + n + ")", desk.chance(1, n), Check.NONE);
        }
        Check.due("chance(-1, 1)", desk.chance(-1, 1), Check.NONE);
        Check.due("chance(MIN, 1)", desk.chance(Integer.MIN_VALUE, 1), Check.NONE);
        LalrDesk none = Check.told("kind e;rule e;");
        Check.due("chance(1, 1)", none.chance(1, 1), Check.NOTHING);
        Check.due("chance(-1, 1)", none.chance(-1, 1), Check.NONE);
        Check.due("chance(1, 0)", none.chance(1, 0), Check.NONE);
        Check.due("without STATES", Check.told("token a;").chance(1, 1), 0);
        Check.due("all rows", Check.told("token a;kind s;rule s a s;rule s;").chance(7, 9), 10);
    }
}
