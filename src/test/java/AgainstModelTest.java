import java.util.Random;

/** Runs of calls by lot, on LastLight and on the model: every answer must be the same. */
public final class AgainstModelTest {
    private static final int RUNS = 150, CALLS = 512;
    private static final int[] EDGES = {-1, -2, Integer.MIN_VALUE, Integer.MAX_VALUE, Model.NONE, 1000, 10000};
    private static final String[] WORDS = {"burn", "fee", "fine", "w", "f", "x", "n", "p", "r", "c", "(", ")", "!", "|", "&", "<", "=", ">", "+", "-", "*", "/", "7", "20", "300", "9999", "0", "12345", "wx", "A", " ", "  ", "?"};

    private final Random lot;
    private final LastLight real = new LastLight();
    private final Model model = new Model();
    private final String run;

    private AgainstModelTest(int seed) {
        lot = new Random(seed);
        run = "run " + seed + ": ";
    }

    public static void main(String[] args) {
        for (int seed = 0; seed < RUNS; seed++) {
            new AgainstModelTest(seed).go();
        }
        Due.end();
    }

    private void go() {
        if (lot.nextInt(3) > 0) {
            int n = 1 + lot.nextInt(10), z = lot.nextInt();
            same("seed", real.seed(z), model.seed(z));
            same("deal", real.deal(n), model.deal(n));
        }
        for (int i = 0; i < CALLS; i++) {
            one(lot.nextInt(46));
        }
        for (int what = 0; what < 8; what++) {
            same("count " + what, real.count(what), model.count(what));
        }
        for (int l = 0; l < 10; l++) {
            for (int what = 0; what < 10; what++) {
                same("told " + l + " " + what, real.told(l, what), model.told(l, what));
            }
        }
    }

    /** Mostly from a to b, now and then beyond it. */
    private int some(int a, int b) {
        int edge = lot.nextInt(24);
        if (edge == 0) return EDGES[lot.nextInt(EDGES.length)];
        if (edge == 1) return b + 1;
        if (edge == 2) return a - 1;
        return a + lot.nextInt(b - a + 1);
    }

    private int lodger() { return some(0, Math.max(0, model.s.all.size() - 1)); }

    private void same(String call, int got, int want) { Due.due(run + call, got, want); }

    private void one(int act) {
        int a, b, c, d, e;
        switch (act) {
            case 0: a = some(0, 5); b = some(0, 2); c = some(0, 599); same("lodger", real.lodger(a, b, c), model.lodger(a, b, c)); break;
            case 1: a = lodger(); b = some(0, 9); same("told", real.told(a, b), model.told(a, b)); break;
            case 2: a = lodger(); b = some(0, 59); same("burns", real.burns(a, b), model.burns(a, b)); break;
            case 3: a = lodger(); b = some(0, 5); same("as", real.as(a, b), model.as(a, b)); break;
            case 4: a = lodger(); b = some(0, 5); same("turns", real.turns(a, b), model.turns(a, b)); break;
            case 5: a = lodger(); b = some(1, 4); c = b == 1 ? some(0, 2) : b == 3 ? some(-60, 60) : b == 4 ? some(0, 300) : some(0, 599); same("set", real.set(a, b, c), model.set(a, b, c)); break;
            case 6: a = some(0, 1); b = a == 0 ? some(0, 3) : some(0, 99); same("rule", real.rule(a, b), model.rule(a, b)); break;
            case 7: a = some(1, lot.nextInt(4) == 0 ? 10 : 2); same("deal", real.deal(a), model.deal(a)); break;
            case 8: a = lot.nextInt(); same("seed", real.seed(a), model.seed(a)); break;
            case 9: a = some(1, lot.nextInt(4) == 0 ? 100 : 5); same("nights", real.nights(a), model.nights(a)); break;
            case 10: a = some(0, 6); same("house", real.house(a), model.house(a)); break;
            case 11: same("longest", real.longest(), model.longest()); break;
            case 12: a = some(0, 100); b = some(0, 12); same("behind", real.behind(a, b), model.behind(a, b)); break;
            case 13: a = some(1, 60); b = some(0, 1); same("bestLaw", real.bestLaw(a, b), model.bestLaw(a, b)); break;
            case 14: a = lodger(); b = some(1, 40); c = some(0, 1); same("bedtime", real.bedtime(a, b, c), model.bedtime(a, b, c)); break;
            case 15: a = lodger(); b = some(1, 40); c = some(0, 1); same("wrong", real.wrong(a, b, c), model.wrong(a, b, c)); break;
            case 16: a = lodger(); b = some(1, 60); c = some(0, 1); same("moved", real.moved(a, b, c), model.moved(a, b, c)); break;
            case 17: if (lot.nextInt(8) == 0) same("dark", real.dark(), model.dark()); break;
            case 18: a = some(0, 3); b = lodger(); c = some(0, 1); same("wished", real.wished(a, b, c), model.wished(a, b, c)); break;
            case 19: same("fee", real.fee(), model.fee()); break;
            case 20: a = lodger(); same("fine", real.fine(a), model.fine(a)); break;
            case 21: case 22: feedAll(); break;
            case 23: a = some(0, 96); same("trim", real.trim(a), model.trim(a)); break;
            case 24: same("text", real.text(), model.text()); break;
            case 25: a = some(0, 13); b = some(0, 1); same("textTold", real.textTold(a, b), model.textTold(a, b)); break;
            case 26: a = some(0, 2); same("why", real.why(a), model.why(a)); break;
            case 27: a = some(0, 3); b = some(-1, 1); c = some(0, 24); same("sheet", real.sheet(a, b, c), model.sheet(a, b, c)); break;
            case 28: case 29: case 30: markSome(); break;
            case 31: if (lot.nextInt(4) == 0) { a = some(0, 3); same("pour", real.pour(a), model.pour(a)); } break;
            case 32: case 33: a = some(0, 3); same("reads", real.reads(a), model.reads(a)); break;
            case 34: a = some(0, 3); b = some(0, 24); c = some(0, 3); d = some(0, 24); e = some(0, 12); same("copy", real.copy(a, b, c, d, e), model.copy(a, b, c, d, e)); break;
            case 35: case 36: a = some(0, 4); b = some(0, 3); c = b == 3 ? lot.nextInt() : some(0, b == 1 ? 9 : 3); same("lay", real.lay(a, b, c), model.lay(a, b, c)); break;
            case 37: a = some(0, 4); b = some(0, 5); same("ask", real.ask(a, b), model.ask(a, b)); break;
            case 38: a = some(0, 4); b = some(0, 23); same("item", real.item(a, b), model.item(a, b)); break;
            case 39: a = some(0, 4); b = some(-5, 5); same("rest", real.rest(a, b), model.rest(a, b)); break;
            case 40: a = lot.nextInt(); if (lot.nextInt(9) == 0) same("tell", real.tell(a), model.tell(a)); break;
            case 41: checkSome(); break;
            case 42: if (lot.nextInt(4) == 0) same("keep", real.keep(), model.keep()); break;
            case 43: if (lot.nextInt(4) == 0) same("back", real.back(), model.back()); break;
            case 44: a = some(0, 7); same("count", real.count(a), model.count(a)); break;
            default: readSheet(); break;
        }
    }

    /** A text, mostly good, all at once: else hardly one would come about. */
    private void feedAll() {
        if (lot.nextInt(6) == 0) {
            int a = lot.nextInt(), b = lot.nextInt(), c = lot.nextInt();
            same("feed", real.feed(a, b, c), model.feed(a, b, c));
            return;
        }
        if (lot.nextInt(4) > 0) {
            same("trim", real.trim(0), model.trim(0));
        }
        int before = model.tape.size();
        int key = lot.nextInt(3);
        String text = WORDS[key] + " " + expression(key, 1 + lot.nextInt(4));
        if (lot.nextInt(3) == 0) {
            int at = lot.nextInt(text.length() + 1);
            text = text.substring(0, at) + WORDS[lot.nextInt(WORDS.length)] + text.substring(at);
        }
        for (int at = 0; at < text.length(); at += 12) {
            int a = Due.four(text, at), b = Due.four(text, at + 4), c = Due.four(text, at + 8);
            same("feed", real.feed(a, b, c), model.feed(a, b, c));
        }
        int bytes = before + text.length();
        same("trim", real.trim(bytes), model.trim(bytes));
        same("text of " + text, real.text(), model.text());
    }

    private String expression(int key, int depth) {
        String names = new String[] {"wfx", "np", "rc"}[key];
        if (depth == 0 || lot.nextInt(6) == 0) {
            return lot.nextBoolean() ? "" + names.charAt(lot.nextInt(names.length())) : "" + lot.nextInt(lot.nextBoolean() ? 10000 : 12);
        }
        int form = lot.nextInt(8);
        if (form == 0) return "!" + expression(key, depth - 1);
        if (form < 3) return "(" + expression(key, depth - 1) + ")";
        String blank = lot.nextInt(5) == 0 ? " " : "";
        return expression(key, depth - 1) + blank + "|&<=>+-*/+-*/".charAt(lot.nextInt(13)) + blank + expression(key, depth - 1);
    }

    private void markSome() {
        int a = some(0, 3), b = some(0, 23);
        int c = lot.nextInt(5) == 0 ? Model.NONE : lot.nextInt(3) == 0 ? some(-99999, 99999) : some(0, 650);
        same("mark", real.mark(a, b, c), model.mark(a, b, c));
    }

    /** Tells the right nights, or all but one of them, and checks. */
    private void checkSome() {
        int n = some(1, lot.nextBoolean() ? 3 : 30);
        if (model.image != null && lot.nextInt(3) > 0 && n > 0) {
            int left = lot.nextInt(3) == 0 ? lot.nextInt(2 * Math.min(n, 30)) : -1;
            for (int v : model.nightsTold(Math.min(n, 30))) {
                int told = left-- == 0 ? v + 1 : v;
                same("tell", real.tell(told), model.tell(told));
            }
            if (lot.nextInt(4) == 0) same("tell", real.tell(1), model.tell(1));
        }
        same("check", real.check(n), model.check(n));
    }

    /** Marks a sheet with what is out, so that reads has something to find. */
    private void readSheet() {
        int sheet = lot.nextInt(4);
        for (int i = 0; i < model.s.all.size(); i++) {
            int out = model.s.all.get(i).out + (lot.nextInt(12) == 0 ? 1 : 0);
            same("mark", real.mark(sheet, i, out), model.mark(sheet, i, out));
        }
        same("reads", real.reads(sheet), model.reads(sheet));
    }
}
