import java.util.ArrayList;
import java.util.List;
import java.util.function.ToIntFunction;

/**
 * Of promise 3: a desk that was told other texts ahead answers as a new one that was told the last of them. No desk is
 * asked more than 512 times, so each pair of desks is asked a part of the questions only.
 */
public final class AgainTest {
    private static final int ASKED_AT_ONCE = 110;
    private static final String[] TEXTS = {
        "token i;token l;token o;kind s;rule s i s;rule s i s l s;rule s o;",
        "token a;token b;token c;kind s;kind x;kind y;rule s x y c;rule x;rule x a;rule y;rule y b;rank a 3 1;rank c 2 2;",
        "",
        "token n;token p;token m;token o;token c;kind e;kind t;kind f;rule e e p t;rule e t;rule t t m f;rule t f;"
            + "rule f o e c;rule f n;",
        "token a;",
        "kind e;",
        "token a;token b;kind s;kind t;kind u;rule s t;rule t u;rule u t;rule u s;rule s b;rule t a s b;",
        "token a;kind s;kind k;rule s k s;rule s;rule k;",
        "token a;token b;token c;token d;token e;token f;token g;kind s;kind t;kind u;kind v;kind w;rule s a t b u;"
            + "rule t c u d v;rule u e v f w;rule v g w a s;rule w;rule s b t c u;rule t d u e v;rule u f v g w;",
        "token a;kind e;rule e e e;rule e a;rule e;rank a 1 0;",
        "token a;kind s;kind t;rule s s;rule s t;rule t t a;rule t s;",
    };

    private static final List<String> NAMES = new ArrayList<>();
    private static final List<ToIntFunction<LalrDesk>> QUESTIONS = new ArrayList<>();

    public static void main(String[] args) {
        gatherQuestions();
        for (int round = 1; round <= 3; round++) {
            for (int k = 0; k < TEXTS.length; k++) {
                String ahead = TEXTS[(k * round + TEXTS.length - round) % TEXTS.length];
                again(ahead, TEXTS[k * round % TEXTS.length]);
            }
        }
        Check.end();
    }

    private static void ask(String name, ToIntFunction<LalrDesk> question) {
        NAMES.add(name);
        QUESTIONS.add(question);
    }

    private static void gatherQuestions() {
        ask("conflicts", LalrDesk::conflicts);
        ask("missing", LalrDesk::missing);
        ask("whole", LalrDesk::whole);
        ask("expected", LalrDesk::expected);
        for (int what = 0; what < 14; what++) {
            int asked = what;
            ask("count(" + what + ")", desk -> desk.count(asked));
            ask("relations(" + what + ")", desk -> desk.relations(asked));
        }
        for (char name = 'a'; name <= 'z'; name++) {
            int letters = Check.letters("" + name);
            ask("named " + name, desk -> desk.named(letters));
        }
        for (int k = 0; k < 13; k++) {
            for (int what = 0; what < 7; what++) {
                gatherQuestionsOf(k, what);
            }
        }
        for (int state = 0; state < 49; state++) {
            int asked = state;
            ask("offset(" + state + ")", desk -> desk.offset(asked));
            for (int symbol = 0; symbol < 15; symbol++) {
                gatherQuestionsOfState(state, symbol);
            }
        }
        for (int place = 0; place < 400; place++) {
            int asked = place;
            ask("packed(" + place + ", 0)", desk -> desk.packed(asked, 0));
            ask("packed(" + place + ", 1)", desk -> desk.packed(asked, 1));
        }
    }

    private static void gatherQuestionsOf(int k, int what) {
        String numbers = "(" + k + ", " + what + ")";
        ask("token" + numbers, desk -> desk.token(k, what));
        ask("kind" + numbers, desk -> k < desk.count(1) && what < 5 ? desk.kind(k, what) : Check.NONE);
        ask("rule" + numbers, desk -> desk.rule(k, what));
        ask("conflict" + numbers, desk -> desk.conflict(k, what));
        ask("shortest" + numbers, desk -> desk.shortest(k, what));
        ask("sentences(" + what + ")", desk -> desk.sentences(what));
        ask("stack(" + k + ")", desk -> desk.stack(k));
        ask("game turned of" + numbers, desk -> desk.game(what, k));
        ask("ask turned of" + numbers, desk -> desk.ask(what, k));
        ask("chance" + numbers, desk -> desk.chance(k, what));
        ask("tried turned of" + numbers, desk -> desk.tried(what, k));
    }

    private static void gatherQuestionsOfState(int state, int k) {
        String numbers = "(" + state + ", " + k + ")";
        ask("state" + numbers, desk -> desk.state(state, k));
        ask("item" + numbers, desk -> desk.item(state, k));
        ask("move" + numbers, desk -> desk.move(state, k));
        ask("action" + numbers, desk -> desk.action(state, k));
        ask("look" + numbers, desk -> desk.look(state, k));
        ask("after" + numbers, desk -> desk.after(state, k));
        ask("witness" + numbers, desk -> desk.witness(state, k));
    }

    private static void again(String ahead, String text) {
        for (int from = 0; from < QUESTIONS.size(); from += ASKED_AT_ONCE) {
            LalrDesk desk = Check.told(ahead);
            use(desk);
            desk.missing();
            desk.tried(3, 1);
            Check.due("text of " + text, Check.tell(desk, text), Check.lines(text));
            LalrDesk fresh = Check.told(text);
            same(text, desk, fresh, from);
            use(desk);
            use(fresh);
            same(text, desk, fresh, from);
            Check.due("text", Check.tell(desk, text + "token token;"), Check.NONE);
            same(text, desk, fresh, from);
        }
    }

    private static void use(LalrDesk desk) {
        desk.note(1, 0, true);
        desk.note(2, 0, false);
        desk.strike(0);
        desk.known(2);
        desk.read(0);
        desk.keep();
        desk.read(desk.expected() == 1 ? 0 : 1);
    }

    private static void same(String text, LalrDesk desk, LalrDesk fresh, int from) {
        for (int k = from; k < from + ASKED_AT_ONCE && k < QUESTIONS.size(); k++) {
            ToIntFunction<LalrDesk> question = QUESTIONS.get(k);
            Check.due(NAMES.get(k) + " of " + text, question.applyAsInt(desk), question.applyAsInt(fresh));
        }
    }
}
