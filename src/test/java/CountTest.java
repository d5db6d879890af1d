/** Promise 38: what is counted. */
public final class CountTest {
    public static void main(String[] args) {
        counts();
        countsOfBare();
        countsOfTokensAlone();
        wrongCounts();
        Check.end();
    }

    private static void counts() {
        LalrDesk desk = Check.told(StatesTest.HANGING);
        Check.dueRow("count", desk::count, 3, 1, 3, 7, 18, 10, 13, 0, 0, 1, 13, 0, 0, 0, Check.NONE);
        Check.read(desk, 0, 0, 2, 1);
        desk.note(1, 2, true);
        desk.strike(0);
        desk.note(1, 2, true);
        desk.known(2);
        desk.undo();
        Check.dueRow("count", desk::count, 3, 1, 3, 7, 18, 10, 13, 0, 3, 4, 13, 3, 2, 3, Check.NONE);
        Check.read(desk, 1);
        Check.dueRow("count", desk::count, 3, 1, 3, 7, 18, 10, 13, 1, 4, 5, 13, 3, 2, 4, Check.NONE);
        // without l and i of alike ranks and no side there is one ACTION less
        LalrDesk ranked = Check.told(StatesTest.HANGING + "rank i 1 0;rank l 1 2;");
        Check.due("ACTIONS", ranked.count(6), 12);
        Check.due("MOVES", ranked.count(5), 10);
    }

    private static void countsOfBare() {
        LalrDesk desk = Check.told("kind s;");
        Check.dueRow("count", desk::count, 0, 1, 0, 2, 2, 1, 1, 0, 0, 1, 1, 0, 0, 0, Check.NONE);
    }

    private static void countsOfTokensAlone() {
        LalrDesk desk = Check.told("token a;token b;rank b 1 1;");
        desk.note(2, 11, false);
        Check.dueRow("count", desk::count, 2, 0, 0, 0, 0, 0, 0, 0, 0, 0, 0, 1, 1, 0, Check.NONE);
    }

    private static void wrongCounts() {
        for (int what : Check.WRONG) {
            Check.due("count(" + what + ")", new LalrDesk().count(what), Check.NONE);
        }
    }
}
