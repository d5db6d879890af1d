/** Of promise 3: a desk that was told many texts answers as a new one that was told the last of them. */
public final class AgainTest {
    private static final String[] TEXTS = {
        "token i;token l;token o;kind s;rule s i s;rule s i s l s;rule s o;",
        "token a;token b;token c;kind s;kind x;kind y;rule s x y c;rule x;rule x a;rule y;rule y b;rank a 3 1;rank c 2 2;",
        "",
        "token n;token p;token m;token o;token c;kind e;kind t;kind f;rule e e p t;rule e t;rule t t m f;rule t f;"
            + "rule f o e c;rule f n;",
        "token a;",
        "kind e;",
        "token a;token b;kind s;kind t;kind u;rule s t;rule t u;rule u t;rule u s;rule s b;rule t a s b;",
        "token a;kind s;kind k;rule s k s;rule s;rule k;",
        "token a;token b;token c;token d;token e;token f;token g;kind s;kind t;kind u;kind v;kind w;rule s a t b u;"
            + "rule t c u d v;rule u e v f w;rule v g w a s;rule w;rule s b t c u;rule t d u e v;rule u f v g w;",
        "token a;kind e;rule e e e;rule e a;rule e;rank a 1 0;",
        "token a;kind s;kind t;rule s s;rule s t;rule t t a;rule t s;",
    };

    public static void main(String[] args) {
        LalrDesk desk = new LalrDesk();
        for (int round = 1; round <= 3; round++) {
            for (int k = 0; k < TEXTS.length; k++) {
                again(desk, TEXTS[k * round % TEXTS.length]);
            }
        }
        Check.end();
    }

    private static void again(LalrDesk desk, String text) {
        Check.due("text of " + text, Check.tell(desk, text), Check.lines(text));
        LalrDesk fresh = Check.told(text);
        same(text, desk, fresh);
        for (LalrDesk one : new LalrDesk[] {desk, fresh}) {
            one.note(1, 0, true);
            one.note(2, 0, false);
            one.strike(0);
            one.known(2);
            one.read(0);
            one.keep();
            one.read(one.expected() == 1 ? 0 : 1);
        }
        same(text, desk, fresh);
        Check.due("text", Check.tell(desk, text + "token token;"), Check.NONE);
        same(text, desk, fresh);
    }

    private static void same(String text, LalrDesk desk, LalrDesk fresh) {
        for (int what = 0; what < 14; what++) {
            Check.due("count(" + what + ") of " + text, desk.count(what), fresh.count(what));
            Check.due("relations(" + what + ") of " + text, desk.relations(what), fresh.relations(what));
        }
        Check.due("conflicts of " + text, desk.conflicts(), fresh.conflicts());
        Check.due("missing of " + text, desk.missing(), fresh.missing());
        Check.due("whole of " + text, desk.whole(), fresh.whole());
        Check.due("expected of " + text, desk.expected(), fresh.expected());
        for (int k = 0; k < 13; k++) {
            for (int what = 0; what < 7; what++) {
                sameOf(text, desk, fresh, k, what);
            }
        }
        for (int state = 0; state < 49; state++) {
            Check.due("offset of " + text, desk.offset(state), fresh.offset(state));
            for (int symbol = 0; symbol < 15; symbol++) {
                sameOfState(text, desk, fresh, state, symbol);
            }
        }
        for (int place = 0; place < 400; place++) {
            Check.due("packed of " + text, desk.packed(place, 0), fresh.packed(place, 0));
            Check.due("packed of " + text, desk.packed(place, 1), fresh.packed(place, 1));
        }
        for (char name = 'a'; name <= 'z'; name++) {
            Check.due("named " + name, desk.named(Check.letters("" + name)), fresh.named(Check.letters("" + name)));
        }
    }

    private static int kind(LalrDesk desk, int kind, int what) {
        return kind < desk.count(1) && what < 5 ? desk.kind(kind, what) : Check.NONE;
    }

    private static void sameOf(String text, LalrDesk desk, LalrDesk fresh, int k, int what) {
        Check.due("token of " + text, desk.token(k, what), fresh.token(k, what));
        Check.due("kind of " + text, kind(desk, k, what), kind(fresh, k, what));
        Check.due("rule of " + text, desk.rule(k, what), fresh.rule(k, what));
        Check.due("conflict of " + text, desk.conflict(k, what), fresh.conflict(k, what));
        Check.due("shortest of " + text, desk.shortest(k, what), fresh.shortest(k, what));
        Check.due("sentences of " + text, desk.sentences(what), fresh.sentences(what));
        Check.due("stack of " + text, desk.stack(k), fresh.stack(k));
        Check.due("game of " + text, desk.game(what, k), fresh.game(what, k));
        Check.due("ask of " + text, desk.ask(what, k), fresh.ask(what, k));
        Check.due("chance of " + text, desk.chance(k, what), fresh.chance(k, what));
        Check.due("tried of " + text, desk.tried(what, k), fresh.tried(what, k));
    }

    private static void sameOfState(String text, LalrDesk desk, LalrDesk fresh, int state, int k) {
        Check.due("state of " + text, desk.state(state, k), fresh.state(state, k));
        Check.due("item of " + text, desk.item(state, k), fresh.item(state, k));
        Check.due("move of " + text, desk.move(state, k), fresh.move(state, k));
        Check.due("action of " + text, desk.action(state, k), fresh.action(state, k));
        Check.due("look of " + text, desk.look(state, k), fresh.look(state, k));
        Check.due("after of " + text, desk.after(state, k), fresh.after(state, k));
        Check.due("witness of " + text, desk.witness(state, k), fresh.witness(state, k));
    }
}
