/** What the tests of the promises share: telling a desk a text, and counting the answers that are not due. */
final class Check {
    static final int NONE = -1;
    static final int NOTHING = -2;
    /** Of one argument: what no call takes for a number of anything. */
    static final int[] WRONG = {-1, -2, Integer.MIN_VALUE, Integer.MAX_VALUE, 1 << 20};

    private static int asked = 0;
    private static int wrong = 0;

    private Check() {
    }

    static void due(String call, long got, long due) {
        asked++;
        if (got != due) {
            wrong++;
            System.out.println(call + " answered " + got + ", due is " + due);
        }
    }

    static void due(String call, boolean got, boolean due) {
        due(call, got ? 1 : 0, due ? 1 : 0);
    }

    /** Each of these in a row, from 0 on. */
    static void dueRow(String call, java.util.function.IntUnaryOperator asking, int... row) {
        for (int k = 0; k < row.length; k++) {
            due(call + " of " + k, asking.applyAsInt(k), row[k]);
        }
    }

    /** Twenty signs from there on as feed() takes them. */
    static int[] numbers(CharSequence text, int at) {
        int[] numbers = new int[5];
        for (int k = 0; k < 20; k++) {
            numbers[k / 4] = numbers[k / 4] << 8 | text.charAt(at + k);
        }
        return numbers;
    }

    static void feed(LalrDesk desk, String text) {
        StringBuilder all = new StringBuilder(text);
        while (all.length() % 20 != 0) {
            all.append(' ');
        }
        for (int at = 0; at < all.length(); at += 20) {
            int[] numbers = numbers(all, at);
            due("feed", desk.feed(numbers[0], numbers[1], numbers[2], numbers[3], numbers[4]), at + 20);
        }
    }

    /** Feeds a text to an empty tape and tells it. */
    static int tell(LalrDesk desk, String text) {
        feed(desk, text);
        return desk.text(text.length());
    }

    static int lines(String text) {
        return (int) text.chars().filter(sign -> sign == ';').count();
    }

    /** A new desk with that text, which must be without a fault. */
    static LalrDesk told(String text) {
        LalrDesk desk = new LalrDesk();
        due("text of " + text, tell(desk, text), lines(text));
        return desk;
    }

    static void read(LalrDesk desk, int... tokens) {
        for (int token : tokens) {
            if (desk.read(token) < 0) {
                wrong++;
                System.out.println("read(" + token + ") was wrong");
            }
        }
    }

    static int letters(String name) {
        int number = 0;
        for (int k = 0; k < 6; k++) {
            number = number << 5 | (k < name.length() ? name.charAt(k) - 'a' + 1 : 0);
        }
        return number;
    }

    static void end() {
        System.out.println(asked + " answers, " + wrong + " not as due");
        if (wrong != 0) {
            System.exit(1);
        }
    }
}
