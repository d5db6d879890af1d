import java.util.*;

/** Runs of calls drawn by chance, each answered by the desk and by the oracle; the runs are always the same ones. */
public final class FuzzTest {
    private static final String[] WELL_KNOWN = {
        "token n;token p;token m;kind e;rule e e p e;rule e e m e;rule e n;rank p 1 0;rank m 2 0;",
        "token n;token p;token m;kind e;rule e e p e;rule e e m e;rule e n;rank p 2 1;rank m 2 2;",
        "token a;token b;kind s;kind x;kind y;rule s x y b;rule x;rule x a;rule y;rule y a;",
        "token a;kind e;rule e e a;rule e a;",
        "token a;kind e;rule e a e;rule e a;",
        "token x;token y;token z;token w;token a;kind s;kind b;kind k;kind c;"
            + "rule s x b y;rule s z b w;rule b k c;rule k a;rule c;",
        "token i;token t;token l;token o;kind s;rule s i s;rule s i s l s;rule s o;",
        "token i;token t;token l;token o;kind s;rule s i s;rule s i s l s;rule s o;rank l 3 1;rank i 3 0;",
        "token n;token p;token m;token o;token c;kind e;kind t;kind f;rule e e p t;rule e t;rule t t m f;rule t f;"
            + "rule f o e c;rule f n;",
        "token i;token q;token s;kind g;kind l;kind r;rule g l q r;rule g r;rule l s r;rule l i;rule r l;",
        "kind a;kind b;kind c;rule a b;rule b c;rule c a;rule c;rule a;",
        "token a;kind e;rule e e e;rule e a;rule e;",
        "token a;token b;kind l;kind m;kind n;kind o;kind p;rule l m m m m;rule m n n n;rule n o o;rule o p p;rule p a;"
            + "rule p b b;",
        "token a;kind l;kind m;kind n;kind o;rule l m m m m;rule m n n n n;rule n o o o o;rule o a;rule m;",
        "token a;kind l;kind m;kind n;kind o;rule l m m m;rule m n n n;rule n o o o;rule o a;",
        "token a;token b;token c;token d;token e;token f;token g;kind s;kind t;kind u;kind v;kind w;rule s a t b u;"
            + "rule t c u d v;rule u e v f w;rule v g w a s;rule w;rule s b t c u;rule t d u e v;rule u f v g w;",
        "token a;token b;kind s;kind t;rule s t a t b;rule t;rule t s;",
        "token a;token b;kind s;kind t;kind u;rule s t;rule t u a;rule u t b;",
        "",
        "token a;token b;",
        "kind a;",
        "kind a;rule a;",
        "token a;kind s;kind x;kind y;kind z;rule s x y z a;rule x z;rule y x;rule z y;rule z;",
    };

    /** What later calls answer is free. */
    private static final int MOST_CALLS = 512;
    /** Feeds of the whole tape, text() and two of fault(). */
    private static final int CALLS_OF_A_TEXT = 38;

    private static long calls = 0;
    private static int wrong = 0;

    public static void main(String[] args) {
        int runs = args.length > 0 ? Integer.parseInt(args[0]) : 250;
        int from = args.length > 1 ? Integer.parseInt(args[1]) : 1;
        for (int seed = from; seed < from + runs && wrong < 5; seed++) {
            run(new Random(seed * 7919L), seed);
        }
        System.out.println(calls + " calls, " + wrong + " wrong");
        if (wrong != 0) {
            System.exit(1);
        }
    }

    private static void run(Random chance, int seed) {
        LalrDesk desk = new LalrDesk();
        Oracle oracle = new Oracle();
        StringBuilder log = new StringBuilder();
        int made = 0;
        while (made < MOST_CALLS && wrong < 5) {
            boolean tells = made == 0 && chance.nextInt(10) > 0 || chance.nextInt(60) == 0;
            if (tells && made + CALLS_OF_A_TEXT <= MOST_CALLS) {
                String text = text(chance);
                log.append("text ").append(text).append('\n');
                made += tell(desk, oracle, text, chance, seed, log);
                continue;
            }
            String call = NAMES[chance.nextInt(NAMES.length)];
            int a = argument(chance);
            int b = argument(chance);
            if (call.equals("note")) {
                int length = chance.nextInt(6);
                a = length == 5 ? argument(chance) : length;
                b = digits(chance, a);
            }
            if (call.equals("chance")) {
                a = chance.nextInt(9) == 0 ? argument(chance) : chance.nextInt();
                b = chance.nextInt(12) - 1;
            }
            if (call.equals("packed")) {
                a = chance.nextInt(10) == 0 ? chance.nextInt(2100) - 50 : chance.nextInt(120);
            }
            made++;
            compare(desk, oracle, call, a, b, seed, log);
        }
    }

    private static final String[] NAMES = {"fault", "named", "token", "kind", "rule", "state", "state", "item", "move",
        "action", "action", "look", "look", "after", "after", "relations", "conflicts", "conflict", "witness",
        "shortest", "offset", "packed", "sentences", "read", "read", "read", "read", "read", "read", "read", "read",
        "whole", "expected", "stack", "game", "note", "note", "strike", "known", "missing", "ask", "chance", "tried",
        "undo", "keep", "back", "count", "count"};

    private static int argument(Random chance) {
        switch (chance.nextInt(40)) {
            case 0:
                return -1 - chance.nextInt(3);
            case 1:
                return chance.nextInt();
            case 2:
                return Integer.MAX_VALUE - chance.nextInt(2);
            case 3:
                return Integer.MIN_VALUE + chance.nextInt(2);
            case 4:
            case 5:
            case 6:
            case 7:
            case 8:
            case 9:
                return chance.nextInt(50);
            case 10:
            case 11:
            case 12:
            case 13:
            case 14:
            case 15:
            case 16:
            case 17:
                return 9 + chance.nextInt(7);
            case 18:
                return 1 + chance.nextInt(26) << 25;
            default:
                return chance.nextInt(chance.nextBoolean() ? 3 : 7);
        }
    }

    private static int digits(Random chance, int length) {
        if (chance.nextInt(12) == 0) {
            return argument(chance);
        }
        int number = 0;
        int most = 1 + chance.nextInt(8);
        for (int k = 0; k < length && k < 8; k++) {
            number = number * 10 + chance.nextInt(most);
        }
        return number;
    }

    private static int tell(LalrDesk desk, Oracle oracle, String text, Random chance, int seed, StringBuilder log) {
        int made = 3;
        StringBuilder all = new StringBuilder(text);
        while (all.length() % 20 != 0) {
            all.append(' ');
        }
        for (int at = 0; at < all.length(); at += 20) {
            int[] numbers = Check.numbers(all, at);
            int due = oracle.feed(numbers[0], numbers[1], numbers[2], numbers[3], numbers[4]);
            int got = desk.feed(numbers[0], numbers[1], numbers[2], numbers[3], numbers[4]);
            due(seed, "feed", got, due, log);
            made++;
        }
        int n = chance.nextInt(12) == 0 ? text.length() - chance.nextInt(25) : text.length();
        n = chance.nextInt(40) == 0 ? text.length() + chance.nextInt(40) : n;
        due(seed, "text(" + n + ")", desk.text(n), oracle.text(n), log);
        due(seed, "fault(0)", desk.fault(0), oracle.fault(0), log);
        due(seed, "fault(1)", desk.fault(1), oracle.fault(1), log);
        return made;
    }

    private static void due(int seed, String call, int got, int due, StringBuilder log) {
        calls++;
        log.append(call).append(" = ").append(due).append('\n');
        if (got != due) {
            wrong++;
            System.out.println("run " + seed + ":\n" + log + "  answered " + got);
        }
    }

    private static void compare(LalrDesk desk, Oracle oracle, String call, int a, int b, int seed, StringBuilder log) {
        int[] both = ask(desk, oracle, call, a, b);
        due(seed, call + "(" + a + ", " + b + ")", both[0], both[1], log);
    }

    private static int kindOf(LalrDesk desk, int a, int b) {
        try {
            return desk.kind(a, b);
        } catch (IndexOutOfBoundsException problem) {
            return Oracle.THROWN_INDEX;
        } catch (NoSuchElementException problem) {
            return Oracle.THROWN_ELEMENT;
        }
    }

    private static int[] pair(int got, int due) {
        return new int[] {got, due};
    }

    private static int[] ask(LalrDesk desk, Oracle oracle, String call, int a, int b) {
        switch (call) {
            case "fault": return pair(desk.fault(a), oracle.fault(a));
            case "named": return pair(desk.named(a), oracle.named(a));
            case "token": return pair(desk.token(a, b), oracle.token(a, b));
            case "kind": return pair(kindOf(desk, a, b), oracle.kind(a, b));
            case "rule": return pair(desk.rule(a, b), oracle.rule(a, b));
            case "state": return pair(desk.state(a, b), oracle.state(a, b));
            case "item": return pair(desk.item(a, b), oracle.item(a, b));
            case "move": return pair(desk.move(a, b), oracle.move(a, b));
            case "action": return pair(desk.action(a, b), oracle.action(a, b));
            case "look": return pair(desk.look(a, b), oracle.look(a, b));
            case "after": return pair(desk.after(a, b), oracle.after(a, b));
            case "relations": return pair(desk.relations(a), oracle.relations(a));
            case "conflicts": return pair(desk.conflicts(), oracle.conflicts());
            case "conflict": return pair(desk.conflict(a, b), oracle.conflict(a, b));
            case "witness": return pair(desk.witness(a, b), oracle.witness(a, b));
            case "shortest": return pair(desk.shortest(a, b), oracle.shortest(a, b));
            case "offset": return pair(desk.offset(a), oracle.offset(a));
            case "packed": return pair(desk.packed(a, b), oracle.packed(a, b));
            case "sentences": return pair(desk.sentences(a), oracle.sentences(a));
            case "read": return pair(desk.read(a), oracle.read(a));
            case "whole": return pair(desk.whole(), oracle.whole());
            case "expected": return pair(desk.expected(), oracle.expected());
            case "stack": return pair(desk.stack(a), oracle.stack(a));
            case "game": return pair(desk.game(a, b), oracle.game(a, b));
            case "note": return pair(desk.note(a, b, b % 3 == 0), oracle.note(a, b, b % 3 == 0));
            case "strike": return pair(desk.strike(a), oracle.strike(a));
            case "known": return pair(desk.known(a) ? 1 : 0, oracle.known(a) ? 1 : 0);
            case "missing": return pair(desk.missing(), oracle.missing());
            case "ask": return pair(desk.ask(a, b), oracle.ask(a, b));
            case "chance": return pair(desk.chance(a, b), oracle.chance(a, b));
            case "tried": return pair(desk.tried(a, b), oracle.tried(a, b));
            case "undo": return pair(desk.undo(), oracle.undo());
            case "keep": return pair(desk.keep(), oracle.keep());
            case "back": return pair(desk.back(), oracle.back());
            default: return pair(desk.count(a), oracle.count(a));
        }
    }

    // ---- texts

    private static String text(Random chance) {
        String text = chance.nextInt(3) == 0 ? WELL_KNOWN[chance.nextInt(WELL_KNOWN.length)] : drawn(chance);
        if (chance.nextInt(6) == 0) {
            text = spoilt(chance, text);
        }
        return text;
    }

    private static String drawn(Random chance) {
        List<String> names = new ArrayList<>(List.of("a", "b", "c", "d", "e", "f", "g", "h", "i", "j", "zz", "longer"));
        Collections.shuffle(names, chance);
        int tokens = chance.nextInt(10) == 0 ? chance.nextInt(8) : 1 + chance.nextInt(4);
        tokens = chance.nextInt(8) == 0 ? 5 + chance.nextInt(3) : tokens;
        int kinds = chance.nextInt(8) == 0 ? chance.nextInt(6) : 1 + chance.nextInt(5);
        List<String> lines = new ArrayList<>();
        List<String> tokenNames = names.subList(0, tokens);
        List<String> kindNames = names.subList(tokens, tokens + kinds);
        for (String name : tokenNames) {
            lines.add("token " + name);
        }
        for (String name : kindNames) {
            lines.add("kind " + name);
        }
        if (kinds > 0) {
            Set<String> rules = new LinkedHashSet<>();
            int most = 1 + chance.nextInt(12);
            int tokenShare = chance.nextInt(10);
            for (int k = 0; k < most; k++) {
                StringBuilder rule = new StringBuilder("rule ");
                rule.append(kindNames.get(k < kinds && chance.nextInt(4) > 0 ? k : chance.nextInt(kinds)));
                int length = Math.min(4, chance.nextInt(chance.nextInt(3) == 0 ? 5 : 4));
                for (int at = 0; at < length; at++) {
                    boolean token = tokens > 0 && chance.nextInt(10) < tokenShare;
                    rule.append(' ').append(token ? tokenNames.get(chance.nextInt(tokens))
                        : kindNames.get(chance.nextInt(kinds)));
                }
                rules.add(rule.toString());
            }
            lines.addAll(rules);
        }
        for (String name : tokenNames) {
            if (chance.nextInt(3) == 0) {
                lines.add("rank " + name + " " + (1 + chance.nextInt(chance.nextBoolean() ? 2 : 9)) + " "
                    + chance.nextInt(3));
            }
        }
        StringBuilder text = new StringBuilder();
        String blank = chance.nextInt(5) == 0 ? " \n" : "";
        for (String line : lines) {
            text.append(line).append(chance.nextInt(9) == 0 ? " ;" : ";").append(blank);
        }
        return text.length() > 680 ? text.substring(0, 680) : text.toString();
    }

    private static String spoilt(Random chance, String text) {
        StringBuilder other = new StringBuilder(text);
        String signs = "abz019; \n;AZ{`/:\t\r\u0000\u00e9\u00ff";
        for (int k = 1 + chance.nextInt(2); k > 0 && other.length() > 0; k--) {
            int at = chance.nextInt(other.length());
            char sign = signs.charAt(chance.nextInt(signs.length()));
            switch (chance.nextInt(5)) {
                case 0:
                    other.deleteCharAt(at);
                    break;
                case 1:
                    other.insert(at, sign);
                    break;
                case 2:
                    other.setCharAt(at, sign);
                    break;
                case 3:
                    int from = other.lastIndexOf(";", at) + 1;
                    int to = other.indexOf(";", at) + 1;
                    if (to > from) {
                        other.insert(chance.nextInt(2) == 0 ? other.length() : 0, other.substring(from, to));
                    }
                    break;
                default:
                    other.setLength(at);
            }
        }
        return other.toString();
    }
}
