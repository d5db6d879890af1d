/**
 * Terms 1 and promises 1 to 5: the boundaries that their sentences name, each told ahead of its test. In a faulty text
 * the sign | stands at the place of the FAULT; it is no part of the text.
 */
public final class TextEdgesTest {
    private static final String SEVEN = "token a;token b;token c;token d;token e;token f;token g;";
    private static final String FIVE = "kind h;kind i;kind j;kind k;kind l;";
    private static final String TWELVE = "rule h;rule h a;rule h b;rule h c;rule h d;rule h e;rule h f;rule h g;rule i a;"
        + "rule j;rule k;rule l;";
    private static final String SEVEN_RANKS = "rank a 1 0;rank b 9 2;rank c 2 1;rank d 3 0;rank e 4 0;rank f 5 0;rank g 6 2;";
    private static final String[] OF_THE_LANGUAGE = {"token", "kind", "rule", "rank"};
    /** The places where W can stand; behind each the rest of its LINE. */
    private static final String[][] BEFORE_AND_BEHIND_W = {{"token ", ";"}, {"kind ", ";"}, {"token a;kind e;rule ", ";"},
        {"token a;kind e;rule e ", ";"}, {"token a;kind e;rule e a e ", ";"}, {"token a;kind e;rank ", " 1 1;"}};

    public static void main(String[] args) {
        noLines();
        mostLines();
        mostLetters();
        wordsOfTheLanguage();
        ranksAndSides();
        blanks();
        mostTokensKindsRules();
        mostSymbols();
        namesOfNoTwo();
        toldAhead();
        eachRankOnce();
        sameRules();
        sameRulesBehindOtherTexts();
        moreMustCome();
        firstAlongTheText();
        leastOfOnePlace();
        mostStates();
        mostStatesBehindAllElse();
        fullTape();
        lastOfTheFullTape();
        highestFirst();
        textsOfNoSuchLength();
        textOfTheFirstBytes();
        faultEmptiesTheTape();
        goodTextForgetsAll();
        faultsOfTheLatestText();
        wrongFaults();
        names();
        Check.end();
    }

    private static void good(String text) {
        LalrDesk desk = Check.told(text);
        Check.due("fault(0) of " + text, desk.fault(0), 0);
        Check.due("fault(1) of " + text, desk.fault(1), Check.NONE);
    }

    private static void faulty(int number, String marked) {
        LalrDesk desk = new LalrDesk();
        Check.due("text of " + marked, Check.tell(desk, marked.replace("|", "")), Check.NONE);
        Check.due("FAULT of " + marked, desk.fault(0), number);
        Check.due("place of " + marked, desk.fault(1), marked.indexOf('|'));
    }

    /** "A TEXT: { LINE ';' }": of no LINES, too. */
    private static void noLines() {
        good("");
        good(" ");
        good("\n");
        good(" \n".repeat(350));
        LalrDesk desk = Check.told("token a;");
        Check.feed(desk, "token b;kind c;");
        Check.due("text(0)", desk.text(0), 0);
        Check.due("no TOKENS", desk.count(0), 0);
        Check.due("the TAPE is empty", desk.text(1), Check.NOTHING);
    }

    /** "TOKENS, at most 7, KINDS, at most 5, RULES, at most 12, of a TOKEN (each once)": so many LINES, and all count. */
    private static void mostLines() {
        String text = SEVEN + FIVE + TWELVE + SEVEN_RANKS;
        Check.due("LINES", Check.lines(text), 31);
        LalrDesk desk = Check.told(text);
        Check.dueRow("count", desk::count, 7, 5, 12);
        good(FIVE + SEVEN + SEVEN_RANKS + TWELVE);
    }

    /** "W: one of 1 .. 6 letters", "a word of more than 6 letters that isn't of the language, too". */
    private static void mostLetters() {
        good("token a;token abcdef;kind z;kind zzzzzz;rule zzzzzz abcdef z zzzzzz;rank abcdef 1 0;");
        for (String[] around : BEFORE_AND_BEHIND_W) {
            faulty(1, around[0] + "|abcdefg" + around[1]);
            faulty(1, around[0] + "|aaaaaaaaaaaaaaaaaaaaaaaaaaaaaaaaaaaa" + around[1]);
        }
        faulty(1, "|tokenss a;");
        // six of them told, a seventh letter makes another word, not the same
        faulty(1, "token abcdef;kind e;rule e |abcdefa;");
    }

    /** "W: .. none of those of the language"; at the head of a LINE only these. */
    private static void wordsOfTheLanguage() {
        for (String word : OF_THE_LANGUAGE) {
            for (String[] around : BEFORE_AND_BEHIND_W) {
                faulty(1, around[0] + "|" + word + around[1]);
            }
            faulty(1, "|" + word + "s a;");
            faulty(1, "|" + word.substring(1) + " a;");
            faulty(1, "|" + word.substring(0, 3) + " a;");
            good("token " + word + "s;kind " + word.substring(1) + ";");
        }
    }

    /** "RANK 1 .. 9, SIDE 0 (left), 1 (right), 2 (none)"; "2 too much (at it): a number beyond what is said". */
    private static void ranksAndSides() {
        String head = "token a;rank a ";
        for (int rank = 0; rank <= 11; rank++) {
            for (int side = 0; side <= 4; side++) {
                if (rank < 1 || rank > 9) {
                    faulty(2, head + "|" + rank + " " + side + ";");
                } else if (side > 2) {
                    faulty(2, head + rank + " |" + side + ";");
                } else {
                    LalrDesk desk = Check.told(head + rank + " " + side + ";");
                    Check.due("RANK", desk.token(0, 0), rank);
                    Check.due("SIDE", desk.token(0, 1), side);
                }
            }
        }
        good(head + "0000000000000000000000000009 000000000000000000000000002;");
        faulty(2, head + "|00 0;");
        faulty(2, head + "|1000000000000000000000000 0;");
        // what would be 1 by 32 or by 64 bits
        faulty(2, head + "|4294967297 0;");
        faulty(2, head + "|18446744073709551617 0;");
        faulty(2, head + "1 |4294967296;");
        faulty(2, head + "1 |18446744073709551616;");
        faulty(1, head + "|-1 0;");
        faulty(1, head + "1 |-1;");
        faulty(1, head + "|a 0;");
        faulty(1, head + "1 |a;");
        faulty(1, head + "1 0 |0;");
        faulty(1, head + "1 0 |a;");
    }

    /** "Blanks 10, 32": no others; and small letters and digits alone. */
    private static void blanks() {
        for (char sign = 0; sign < 256; sign++) {
            boolean isBlank = sign == 10 || sign == 32;
            boolean isLetter = sign >= 'a' && sign <= 'z';
            if (sign == '|') {
                continue;
            }
            if (isBlank || isLetter) {
                good("token b" + sign + ";");
            } else if (sign == ';') {
                faulty(1, "token b;|;");
            } else {
                faulty(1, "token b|" + sign + ";");
            }
            faulty(1, isBlank ? sign + "|;" : "|" + sign + ";");
            if (isBlank) {
                good("token" + sign + "b;" + sign + "rank" + sign + "b" + sign + "1" + sign + "0" + sign + ";" + sign);
            } else if (sign < '0' || sign > '9') {
                faulty(1, "token b;rank b 1|" + sign + "0;");
            }
        }
        // none is needed between a word and a number
        good("token b;rank b1 0;");
        faulty(1, "|tokenb;");
    }

    /** "an eighth token and so on (at the word of the LINE)": whatever is behind that word. */
    private static void mostTokensKindsRules() {
        good(SEVEN);
        good(FIVE);
        good(SEVEN + FIVE + TWELVE);
        for (String rest : new String[] {" x;", "", " ", " a;", " abcdefg;", " token;", ";", " x x;", " 1;"}) {
            faulty(2, SEVEN + "|token" + rest);
            faulty(2, FIVE + "|kind" + rest);
            faulty(2, SEVEN + FIVE + TWELVE + "|rule" + rest);
        }
        faulty(2, SEVEN + FIVE + TWELVE + "|rule h;");
        faulty(2, SEVEN + FIVE + TWELVE + "|rule i b b b b b;");
        // a sixth KIND behind seven TOKENS, an eighth TOKEN behind five KINDS
        faulty(2, SEVEN + FIVE + "|kind x;");
        faulty(2, FIVE + SEVEN + "\n |token x;");
    }

    /** "a KIND and behind it 0 .. 4 SYMBOLS"; "a fifth SYMBOL of a RULE (at its W)". */
    private static void mostSymbols() {
        StringBuilder rule = new StringBuilder("token a;kind e;rule e");
        for (int symbols = 0; symbols <= 4; symbols++) {
            Check.due("SYMBOLS", Check.told(rule + ";").rule(0, 1), symbols);
            rule.append(symbols % 2 == 0 ? " e" : " a");
        }
        faulty(2, "token a;kind e;rule e e a e a |e;");
        faulty(2, "token a;kind e;rule e e a e a\n |a e a e a;");
    }

    /** "names, none of two"; "3 told already: a name (at W)". */
    private static void namesOfNoTwo() {
        for (String first : new String[] {"token", "kind"}) {
            for (String second : new String[] {"token", "kind"}) {
                faulty(3, first + " a;" + second + " |a;");
                faulty(3, first + " abcdef;" + second + " x;" + second + " |abcdef;");
                good(first + " abcdef;" + second + " abcde;" + second + " bcdef;");
            }
        }
        faulty(3, SEVEN + "kind |g;");
        faulty(3, FIVE + "token |l;");
    }

    /** "4 a KIND (behind rule first; a TOKEN there is none), a SYMBOL, a TOKEN (behind rank) that isn't told ahead (at W)". */
    private static void toldAhead() {
        faulty(4, "token a;rule |e;kind e;");
        faulty(4, "token a;rule |a;");
        faulty(4, "kind e;rule e e |a;token a;");
        faulty(4, "kind e;rule e |f;kind f;");
        faulty(4, "rank |a 1 0;token a;");
        faulty(4, "kind e;rank |e 1 0;");
        good("kind e;rule e e;");
        good("kind e;token a;rule e a;");
        // names of six letters are told from their first five
        faulty(4, "token abcdef;rank |abcde 1 0;");
        faulty(4, "token abcde;rank |abcdef 1 0;");
    }

    /** "rank: of a TOKEN (each once)"; "a rank of that TOKEN (at W)", be it the same, be its numbers wrong. */
    private static void eachRankOnce() {
        faulty(3, "token a;rank a 9 2;rank |a 9 2;");
        faulty(3, "token a;token b;rank a 1 0;rank b 1 0;rank |a 0 3;");
        faulty(3, SEVEN + SEVEN_RANKS + "rank |g");
        good(SEVEN + SEVEN_RANKS);
    }

    /** "5 a RULE of the same KIND and the same SYMBOLS (at its ';')". */
    private static void sameRules() {
        faulty(5, "kind e;rule e;rule e|;");
        faulty(5, "token a;kind e;rule e a a a a;rule e a a a e;rule e a a a a \n|;");
        faulty(5, "token a;kind e;rule e a a a e;rule e;rule e a a a e|;");
        good("token a;kind e;kind f;rule e a a a a;rule e a a a e;rule e a a a f;rule f a a a a;rule e a a a;rule e e a a a;");
        good("kind e;kind f;rule e;rule f;rule e e;rule f e;rule e f;rule f f;");
    }

    /** What texts ahead said of longer RULES is of no use. */
    private static void sameRulesBehindOtherTexts() {
        LalrDesk desk = new LalrDesk();
        for (int times = 0; times < 3; times++) {
            Check.due("text", Check.tell(desk, "token a;token b;kind e;rule e a a a a;rule e b b b b;rule e a b a b;"), 6);
        }
        for (String rule : new String[] {"rule e", "rule e a", "rule e a b", "rule e a b b"}) {
            String text = "token a;token b;kind e;" + rule + ";" + rule;
            Check.due("text", Check.tell(desk, text + ";"), Check.NONE);
            Check.due("FAULT", desk.fault(0), 5);
            Check.due("place", desk.fault(1), text.length());
        }
    }

    /** "(the length, if more must come)": with the blanks at the end. */
    private static void moreMustCome() {
        String head = "token a;kind e;";
        for (String line : new String[] {"token b", "kind f", "rule e", "rule e a a a a", "rank a 1 0"}) {
            String told = "";
            for (String part : line.split(" ")) {
                told += part;
                faulty(1, head + told + "|");
                faulty(1, head + told + " \n |");
                told += " ";
            }
            good(head + line + ";");
        }
    }

    private static final String[] FAULTS = {"|a;", "rank a |0 0;", "token |a;", "rule |x;", "rule e a|;"};

    /** "FAULTS, the first along the text". */
    private static void firstAlongTheText() {
        for (int first = 1; first <= 5; first++) {
            for (String second : FAULTS) {
                faulty(first, "token a;kind e;rule e a;" + FAULTS[first - 1] + second.replace("|", ""));
            }
        }
    }

    /** "(of one place the least)": a fifth SYMBOL that isn't told (2, 4), or is no W (1, 2). */
    private static void leastOfOnePlace() {
        String four = "token a;kind e;rule e a a a a ";
        faulty(2, four + "|x;");
        for (String other : new String[] {"token", "rank", "abcdefg", "1", "A", "", ",;"}) {
            faulty(1, four + "|" + other);
        }
        faulty(1, "kind e;rule e |abcdefg;");
        faulty(1, "rank |abcdefg 1 0;");
        faulty(1, "rule |kind;");
    }

    /** "2 at the length, if there would be more than 48 STATES of it": of the first n bytes, not of the TAPE. */
    private static void mostStates() {
        String most = TextTest.grammarOfStates(48);
        String more = TextTest.grammarOfStates(49);
        LalrDesk desk = Check.told(most);
        Check.due("STATES", desk.count(3), 48);
        faulty(2, more + "|");
        faulty(2, more + "\n\n \n|");
        Check.feed(desk, more + "rank a 1 0;");
        Check.due("text", desk.text(more.length()), Check.NONE);
        Check.due("FAULT", desk.fault(0), 2);
        Check.due("place", desk.fault(1), more.length());
        Check.due("STATES", desk.count(3), 48);
    }

    /** "And, behind all of these". */
    private static void mostStatesBehindAllElse() {
        String more = TextTest.grammarOfStates(49);
        String[] faults = {"kind |", "rank a |0 0;", "kind |a;", "rank |x 1 0;"};
        for (int k = 0; k < faults.length; k++) {
            faulty(k + 1, more + faults[k]);
        }
        String eleven = more.substring(0, more.lastIndexOf("rule"));
        faulty(5, eleven + "rule s g a a a|;");
        // at one place: more must come (1), too many STATES (2)
        faulty(1, more + "kind|");
    }

    /** "NONE, and none come, if it would have more than 700". */
    private static void fullTape() {
        LalrDesk desk = new LalrDesk();
        Check.feed(desk, "token a;" + " ".repeat(672));
        Check.due("the 35th", desk.feed(0x20202020, 0x20202020, 0x20202020, 0x20202020, 0x20206b6b), 700);
        int[] more = Check.numbers("token b;token c;    ", 0);
        for (int k = 0; k < 3; k++) {
            Check.due("one more", desk.feed(more[0], more[1], more[2], more[3], more[4]), Check.NONE);
        }
        Check.due("text(701)", desk.text(701), Check.NOTHING);
        Check.due("text(720)", desk.text(720), Check.NOTHING);
        Check.due("text(700)", desk.text(700), Check.NONE);
        Check.due("the last bytes", desk.fault(1), 698);
        Check.due("an empty TAPE", desk.feed(more[0], more[1], more[2], more[3], more[4]), 20);
        Check.due("text(20)", desk.text(20), 2);
        Check.due("b", desk.named(Check.letters("b")), 0);
        Check.due("a", desk.named(Check.letters("a")), Check.NONE);
    }

    /** The last byte of a full TAPE is one of the TEXT, too. */
    private static void lastOfTheFullTape() {
        for (int n = 698; n <= 700; n++) {
            LalrDesk desk = new LalrDesk();
            Check.feed(desk, "token a;" + " ".repeat(685) + "kind e;");
            Check.due("text(" + n + ")", desk.text(n), n == 700 ? 2 : Check.NONE);
            Check.due("place", desk.fault(1), n == 700 ? Check.NONE : n);
        }
    }

    /** "four of each number, the highest first": with the numbers below 0, too. */
    private static void highestFirst() {
        for (int place = 0; place < 20; place++) {
            for (int sign : new int[] {0, 127, 128, 255}) {
                int[] numbers = Check.numbers(" ".repeat(place) + (char) sign + " ".repeat(19 - place), 0);
                LalrDesk desk = new LalrDesk();
                Check.due("feed", desk.feed(numbers[0], numbers[1], numbers[2], numbers[3], numbers[4]), 20);
                Check.due("text(20)", desk.text(20), Check.NONE);
                Check.due("place", desk.fault(1), place);
            }
        }
    }

    /** "-2, and the TAPE stays: there are not so many, n is below 0". */
    private static void textsOfNoSuchLength() {
        LalrDesk desk = Check.told("token b;");
        Check.due("text(1)", desk.text(1), Check.NOTHING);
        Check.feed(desk, "kind e;token a;     ");
        for (int n : new int[] {21, 22, 700, 701, Integer.MAX_VALUE, -1, -2, -20, Integer.MIN_VALUE}) {
            Check.due("text(" + n + ")", desk.text(n), Check.NOTHING);
            Check.due("all else stays", desk.named(Check.letters("b")), 0);
        }
        Check.due("feed", desk.feed(0x20202020, 0x20202020, 0x20202020, 0x20202020, 0x20202020), 40);
        Check.due("text(41)", desk.text(41), Check.NOTHING);
        Check.due("text(40)", desk.text(40), 2);
        Check.due("e", desk.named(Check.letters("e")), 10);
    }

    /** "The TAPE's first n bytes (it is empty then) are the TEXT". */
    private static void textOfTheFirstBytes() {
        int[] lines = {0, -1, -1, -1, -1, -1, -1, -1, 1, -1, -1, -1, -1, -1, -1, 2, 2, 2, 2, 2, 2};
        int[] places = {-1, 0, 0, 0, 0, 5, 6, 7, -1, 8, 8, 8, 12, 13, 14, -1, -1, -1, -1, -1, -1};
        for (int n = 0; n <= 20; n++) {
            LalrDesk desk = new LalrDesk();
            Check.feed(desk, "token a;kind e;     ");
            Check.due("text(" + n + ")", desk.text(n), lines[n]);
            Check.due("place of " + n, desk.fault(1), places[n]);
            Check.due("the rest is gone", desk.text(1), Check.NOTHING);
        }
    }

    /** "(it is empty then) .. NONE with a FAULT, all else stays". */
    private static void faultEmptiesTheTape() {
        LalrDesk desk = Check.told("token a;");
        Check.feed(desk, "token b;token b;token c;                ");
        Check.due("text(24)", desk.text(24), Check.NONE);
        Check.due("text(1)", desk.text(1), Check.NOTHING);
        Check.due("feed", desk.feed(0, 0, 0, 0, 0), 20);
        Check.due("b isn't told", desk.named(Check.letters("b")), Check.NONE);
        Check.due("a is", desk.named(Check.letters("a")), 0);
    }

    /** "(nothing READ, no NOTES, all KNOWN, no IMAGE, nothing to undo then)": by the same text, too, or by one of no LINES. */
    private static void goodTextForgetsAll() {
        String text = "token a;kind s;rule s s a;rule s;";
        for (String next : new String[] {text, "", "token b;", "kind s;"}) {
            LalrDesk desk = Check.told(text);
            Check.read(desk, 0, 0, 0);
            desk.note(1, 0, false);
            desk.strike(0);
            desk.known(0);
            desk.keep();
            Check.due("text", Check.tell(desk, next), Check.lines(next));
            int first = desk.count(3) > 0 ? 1 : 0;
            int[] due = {0, 0, first};
            for (int k = 0; k < due.length; k++) {
                Check.due("count(" + (7 + k) + ")", desk.count(7 + k), due[k]);
            }
            Check.dueRow("count behind 11", k -> desk.count(11 + k), 0, 0, 0);
            Check.due("back", desk.back(), Check.NONE);
            Check.due("undo", desk.undo(), Check.NONE);
            Check.due("a first NOTE", desk.note(0, 0, true), 0);
            Check.due("by all", desk.count(12), 1);
        }
        LalrDesk desk = Check.told("token a;kind s;rule s;rule s a;");
        desk.note(0, 0, false);
        Check.due("missing", desk.missing(), 1);
        Check.due("text", Check.tell(desk, "token a;kind s;rule s a;rule s;rule s a a;"), 5);
        Check.due("missing without NOTES", desk.missing(), 7);
        desk.note(0, 0, false);
        Check.due("missing of this text", desk.missing(), 2);
    }

    private static void dueFault(LalrDesk desk, int number, int place) {
        Check.due("fault(0)", desk.fault(0), number);
        Check.due("fault(1)", desk.fault(1), place);
    }

    /** "Of the latest text() that was not -2". */
    private static void faultsOfTheLatestText() {
        LalrDesk desk = new LalrDesk();
        dueFault(desk, 0, Check.NONE);
        desk.text(1);
        dueFault(desk, 0, Check.NONE);
        Check.tell(desk, "token a;token a;");
        dueFault(desk, 3, 14);
        desk.text(1);
        desk.text(-1);
        dueFault(desk, 3, 14);
        Check.feed(desk, "rule e;");
        dueFault(desk, 3, 14);
        desk.text(5);
        dueFault(desk, 1, 5);
        Check.tell(desk, "token a;");
        dueFault(desk, 0, Check.NONE);
        desk.text(9);
        dueFault(desk, 0, Check.NONE);
        Check.tell(desk, ";");
        dueFault(desk, 1, 0);
        desk.text(0);
        dueFault(desk, 0, Check.NONE);
    }

    /** "NONE for another what". */
    private static void wrongFaults() {
        LalrDesk desk = new LalrDesk();
        Check.tell(desk, "token a;token a;");
        for (int what : new int[] {-1, 2, 3, 10, Integer.MAX_VALUE, Integer.MIN_VALUE}) {
            Check.due("fault(" + what + ")", desk.fault(what), Check.NONE);
            Check.due("fault(" + what + ") of a new one", new LalrDesk().fault(what), Check.NONE);
        }
    }

    /** "(a is 1; the first one highest of six, 0 behind the last one); NONE: there is none such". */
    private static void names() {
        LalrDesk desk = Check.told("token a;token zzzzzz;token b;token c;token d;token e;token f;kind u;kind v;kind w;kind x;"
            + "kind abcdef;");
        Check.due("a", desk.named(1 << 25), 0);
        Check.due("zzzzzz", desk.named(26 << 25 | 26 << 20 | 26 << 15 | 26 << 10 | 26 << 5 | 26), 1);
        Check.due("the last TOKEN", desk.named(6 << 25), 6);
        Check.due("abcdef, the last KIND", desk.named(1 << 25 | 2 << 20 | 3 << 15 | 4 << 10 | 5 << 5 | 6), 14);
        // nothing, below 0, more than 30 bits, not from the first one on, nothing in between, no letters, a part of a name
        for (int other : new int[] {0, -1, Integer.MIN_VALUE, Integer.MAX_VALUE, 1 << 30 | 1 << 25, 1 << 31 | 1 << 25, 1, 1 << 20,
            1 << 25 | 1, 27 << 25, 31 << 25, 26 << 25, 1 << 25 | 2 << 20 | 3 << 15 | 4 << 10 | 5 << 5, 25 << 25}) {
            Check.due("named(" + other + ")", desk.named(other), Check.NONE);
        }
        for (String word : OF_THE_LANGUAGE) {
            Check.due(word, desk.named(Check.letters(word)), Check.NONE);
        }
        Check.due("of a TEXT that was ahead", desk.text(0), 0);
        Check.due("a", desk.named(1 << 25), Check.NONE);
    }
}
