/** Promises 1 to 5: a new object, the tape, texts, their faults, names. */
public final class TextTest {
    public static void main(String[] args) {
        newObject();
        tape();
        goodTexts();
        textOfPartOfTheTape();
        notHere();
        tooMuch();
        tooManyStates();
        toldAlready();
        notTold();
        sameRule();
        firstFaultGoes();
        faultLeavesAllElse();
        textForgets();
        names();
        Check.end();
    }

    private static void newObject() {
        LalrDesk desk = new LalrDesk();
        Check.dueRow("count", desk::count, 0, 0, 0, 0, 0, 0, 0, 0, 0, 0, 0, 0, 0, 0, Check.NONE);
        Check.due("fault(0)", desk.fault(0), 0);
        Check.due("fault(1)", desk.fault(1), Check.NONE);
        Check.due("text(1)", desk.text(1), Check.NOTHING);
        Check.due("text(0)", desk.text(0), 0);
        Check.due("NONE", LalrDesk.NONE, -1);
        Check.due("an object of its own", new LalrDesk().feed(0, 0, 0, 0, 0), 20);
    }

    private static void tape() {
        LalrDesk desk = new LalrDesk();
        for (int k = 1; k <= 35; k++) {
            Check.due("feed", desk.feed(0x20202020, 0x0a0a0a0a, 0x20202020, 0x20202020, 0x20202020), 20 * k);
        }
        Check.due("the 36th feed", desk.feed(-1, -1, -1, -1, -1), Check.NONE);
        Check.due("text(701)", desk.text(701), Check.NOTHING);
        Check.due("text(700)", desk.text(700), 0);
        Check.due("an empty tape", desk.feed(0, 0, 0, 0, 0), 20);
        LalrDesk high = new LalrDesk();
        Check.due("feed", high.feed(0x746f6b65, 0x6e206e3b, 0xffffffff, 0x80808080, 0x7f7f7f7f), 20);
        Check.due("text(20)", high.text(20), Check.NONE);
        fault(high, 1, 8);
    }

    private static void goodTexts() {
        String[] texts = {"", " \n ", "token a;", "kind e;", "token a;kind e;rule e a;rank a 1 0;",
            "token\na\n;\nkind\ne\n;\nrule\ne\n;", "  token abcdef ;  kind fedcba;rule fedcba abcdef abcdef;  ",
            "token a;rank a 9 2;", "token a;rank a 009 00;", "token a;rank a1 2;", "token a;rank a 1\n2;",
            "token tokens;kind kinds;kind rules;kind ranks;rule rules;kind to;kind k;",
            "token a;token b;token c;token d;token e;token f;token g;kind h;kind i;kind j;kind k;kind l;",
            "kind e;rule e e e e e;rule e;rule e e;rule e e e;rule e e e e;"};
        for (String text : texts) {
            LalrDesk desk = new LalrDesk();
            Check.due("text of " + text, Check.tell(desk, text), Check.lines(text));
            fault(desk, 0, Check.NONE);
        }
    }

    private static void textOfPartOfTheTape() {
        LalrDesk desk = new LalrDesk();
        Check.feed(desk, "token a;token b;");
        for (int n : Check.WRONG) {
            Check.due("text(" + n + ")", desk.text(n), Check.NOTHING);
        }
        Check.due("text(21)", desk.text(21), Check.NOTHING);
        Check.due("text(8)", desk.text(8), 1);
        Check.due("TOKENS", desk.count(0), 1);
        Check.due("the rest is gone", desk.text(1), Check.NOTHING);
        Check.due("a -2 has no FAULT", desk.fault(0), 0);
    }

    private static void fault(LalrDesk desk, int number, int place) {
        Check.due("fault(0)", desk.fault(0), number);
        Check.due("fault(1)", desk.fault(1), place);
        for (int what : Check.WRONG) {
            Check.due("fault(" + what + ")", desk.fault(what), Check.NONE);
        }
        Check.due("fault(2)", desk.fault(2), Check.NONE);
    }

    /** The place is that of the sign |, which is no part of the text. */
    private static void faulty(int number, String marked) {
        LalrDesk desk = new LalrDesk();
        String text = marked.replace("|", "");
        Check.due("text of " + marked, Check.tell(desk, text), Check.NONE);
        Check.due("FAULT of " + marked, desk.fault(0), number);
        Check.due("place of " + marked, desk.fault(1), marked.indexOf('|'));
    }

    private static void notHere() {
        String[] texts = {"|a;", "|;", "|1;", "|tokens a;", "|tokena;", "token |", "token  |", "token a|", "token a |", "token a  \n|",
            "token |;", "token |1;", "token |token;", "token |kind;", "token |rule;", "token |rank;", "kind |rule;",
            "token |abcdefg;", "token a|1;", "token a |b;", "token a;|;", "token a;kind e;rule |1;", "kind e;rule e|",
            "kind e;rule |rule;", "kind e;rule e e |rank;", "kind e;rule e |abcdefg;", "kind e;rule e e |2;",
            "|Token a;", "token |A;", "token a|A;", "token a|\t;", "token a|\r;", "token a|,", "token |_;", "token |\u0000;",
            "token |\u00e9;", "token a|\u00ff;", "token a;rank a|;", "token a;rank a |b 1;", "token a;rank a 1|;",
            "token a;rank a 1 |a;", "token a;rank a 1 1|", "token a;rank a 1 1 |1;", "token a;rank a |-1 1;",
            "token a;rank |1 1;", "token a;rank |rank 1 1;", "token a;rank a 1|.1;",
            "token |`;", "token |{;", "token a;rank a |/;", "token a;rank a |:;"};
        for (String text : texts) {
            faulty(1, text);
        }
    }

    private static void tooMuch() {
        String seven = "token a;token b;token c;token d;token e;token f;token g;";
        String five = "kind h;kind i;kind j;kind k;kind l;";
        faulty(2, seven + "|token h;");
        faulty(2, seven + "|token");
        faulty(2, seven + " |token a;");
        faulty(2, five + "|kind m;");
        faulty(2, five + "\n|kind ;");
        StringBuilder twelve = new StringBuilder("token a;token b;token c;kind h;kind i;");
        for (char first = 'a'; first <= 'c'; first++) {
            twelve.append("rule h ").append(first).append(";rule h a ").append(first).append(";rule i b ").append(first)
                .append(";rule i c ").append(first).append(';');
        }
        Check.due("twelve RULES", Check.told(twelve.toString()).count(2), 12);
        faulty(2, twelve + "|rule i;");
        faulty(2, twelve + "|rule");
        faulty(2, twelve + "|rule h a;");
        faulty(2, "token a;kind e;rule e a a a a |a;");
        faulty(2, "token a;kind e;rule e a a a a |b;");
        faulty(1, "token a;kind e;rule e a a a a |token;");
        faulty(1, "token a;kind e;rule e a a a a |abcdefg;");
        faulty(1, "token a;kind e;rule e a a a a |7;");
        faulty(1, "token a;kind e;rule e a a a a|");
        faulty(2, "token a;rank a |0 1;");
        faulty(2, "token a;rank a |10 1;");
        faulty(2, "token a;rank a |4294967297 1;");
        faulty(2, "token a;rank a |18446744073709551617 1;");
        faulty(2, "token a;rank a 1 |3;");
        faulty(2, "token a;rank a 1 |4294967296;");
        faulty(2, "token a;rank a |99");
    }

    /** Seven rules of a first kind and five of a second one, of four symbols each: 28 and 20 states and two more. */
    static String grammarOfStates(int states) {
        StringBuilder text = new StringBuilder();
        for (char token = 'a'; token <= 'g'; token++) {
            text.append("token ").append(token).append(';');
        }
        text.append("kind s;kind t;");
        for (char token = 'a'; token <= 'g'; token++) {
            text.append("rule s ").append(token).append(token == 'a' ? " t a a;" : " a a a;");
        }
        for (char token = 'a'; token <= 'e'; token++) {
            int symbols = token - 'a' < 50 - states ? 3 : 4;
            text.append("rule t ").append(token).append(" b b b".substring(0, 2 * symbols - 2)).append(';');
        }
        return text.toString();
    }

    private static void tooManyStates() {
        LalrDesk desk = Check.told(grammarOfStates(48));
        Check.due("STATES", desk.count(3), 48);
        Check.due("a STATE", desk.state(47, 0), 1);
        Check.due("none", desk.state(48, 0), Check.NONE);
        faulty(2, grammarOfStates(49) + "|");
        faulty(2, grammarOfStates(50) + " \n |");
        faulty(1, grammarOfStates(49) + "kind |");
        Check.due("as it was", Check.tell(desk, grammarOfStates(49)), Check.NONE);
        Check.due("STATES", desk.count(3), 48);
        Check.due("a RULE", desk.rule(11, 1), 4);
        Check.due("a RULE", desk.rule(8, 1), 3);
    }

    private static void toldAlready() {
        faulty(3, "token a;token |a;");
        faulty(3, "token a;kind |a;");
        faulty(3, "kind a;token |a;");
        faulty(3, "kind a;kind |a");
        faulty(3, "token a;rank a 1 1;rank |a 1 1;");
        faulty(3, "token a;rank a 1 0;rank |a 0 7;");
    }

    private static void notTold() {
        faulty(4, "rule |e;");
        faulty(4, "token a;rule |a;");
        faulty(4, "kind e;rule e |a;token a;");
        faulty(4, "kind e;rule e e |f;kind f;");
        faulty(4, "rank |a 1 1;token a;");
        faulty(4, "kind e;rank |e 1 1;");
        faulty(4, "kind e;rank |a 0 9;");
    }

    private static void sameRule() {
        faulty(5, "kind e;rule e;rule e|;");
        faulty(5, "token a;kind e;kind f;rule e a f;rule f a f;rule e a;rule e a f  |;");
        Check.told("token a;kind e;kind f;rule e a f;rule f a f;rule e f a;rule e a;rule e f;");
        faulty(1, "kind e;rule e;rule e|");
    }

    private static void firstFaultGoes() {
        faulty(3, "token a;token |a;rule b;");
        faulty(4, "rule |e A");
        faulty(1, "token a|A;token a;");
        faulty(2, "token a;kind e;rule e a a a a |a;rule e;rule e;");
    }

    private static void faultLeavesAllElse() {
        LalrDesk desk = Check.told("token a;kind e;rule e a;rank a 3 2;");
        Check.read(desk, 0);
        desk.note(1, 0, true);
        desk.note(0, 0, false);
        desk.known(1);
        desk.keep();
        Check.due("text", Check.tell(desk, "token b;token b;"), Check.NONE);
        fault(desk, 3, 14);
        Check.due("the tape is empty", desk.text(1), Check.NOTHING);
        fault(desk, 3, 14);
        Check.dueRow("count", desk::count, 1, 1, 1, 3, 4, 2, 3, 0, 1, 2, 3, 2, 1, 1);
        Check.due("named", desk.named(Check.letters("a")), 0);
        Check.due("named", desk.named(Check.letters("b")), Check.NONE);
        Check.due("token", desk.token(0, 1), 2);
        Check.due("missing", desk.missing(), 0);
        Check.due("back", desk.back(), 2);
    }

    private static void textForgets() {
        LalrDesk desk = Check.told("token a;kind e;rule e a;rule e e a;");
        Check.read(desk, 0, 0);
        desk.note(1, 0, true);
        desk.known(0);
        desk.keep();
        Check.due("text", Check.tell(desk, "token b;kind f;rule f b;"), 3);
        Check.due("READ", desk.count(8), 0);
        Check.due("REDUCES", desk.count(7), 0);
        Check.due("STATES READ", desk.count(9), 1);
        Check.due("NOTES", desk.count(11), 0);
        Check.due("a NOTE", desk.note(1, 0, false), 0);
        Check.due("all KNOWN", desk.count(12), 1);
        Check.due("back", desk.back(), Check.NONE);
        Check.due("undo", desk.undo(), Check.NONE);
        Check.due("named", desk.named(Check.letters("a")), Check.NONE);
        Check.due("named", desk.named(Check.letters("b")), 0);
        Check.due("RANK", desk.token(0, 0), 0);
    }

    private static void names() {
        LalrDesk desk = Check.told("token a;token zz;token abcdef;kind e;kind ef;kind zzzzzz;");
        Check.due("a", desk.named(1 << 25), 0);
        Check.due("zz", desk.named(Check.letters("zz")), 1);
        Check.due("abcdef", desk.named(Check.letters("abcdef")), 2);
        Check.due("e", desk.named(5 << 25), 10);
        Check.due("ef", desk.named(5 << 25 | 6 << 20), 11);
        Check.due("zzzzzz", desk.named(Check.letters("zzzzzz")), 12);
        for (String other : new String[] {"b", "aa", "z", "zzz", "abcde", "zzzzz", "f", "token", "kind", "rule", "rank"}) {
            Check.due(other, desk.named(Check.letters(other)), Check.NONE);
        }
        for (int other : new int[] {0, 1, 10, 1 << 30 | 1 << 25, Integer.MIN_VALUE | 1 << 25, -1, Integer.MIN_VALUE,
            Integer.MAX_VALUE, 1 << 25 | 1}) {
            Check.due("named(" + other + ")", desk.named(other), Check.NONE);
        }
        Check.due("none", new LalrDesk().named(0), Check.NONE);
    }
}
