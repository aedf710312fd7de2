import java.util.ArrayDeque;
import java.util.ArrayList;
import java.util.Comparator;
import java.util.List;

/**
 * The document once more, in the plainest way and with all of the library, to compare answers with.
 * It shares no code with LastLight, and goes other ways: kinds are classes, payers are sorted, texts are
 * read by a table of signs, and every image and thought is a new object.
 */
final class Model {
    static final int BAD = -1000000001, NO = -1000000002, FULL = -1000000003, NONE = -1000000005, NOTHING = -1000000011, KIND = -1000000012, INDEX = -1000000013, SIZE = -1000000014;

    static class Plain {
        int burns(int given, int x) { return Math.min(599, Math.max(0, given)); }
        int paid() { return 20; }
        int spared() { return -4; }
        int worth(int wish) { return wish / 10; }
    }
    static class Student extends Plain {
        @Override int burns(int given, int x) { return Math.min(599, super.burns(given, x) + 60); }
        @Override int paid() { return 5; }
        @Override int worth(int wish) { return super.worth(wish) + 5; }
    }
    static class Baker extends Plain {
        @Override int burns(int given, int x) { return super.burns(given, x) / 2; }
        @Override int worth(int wish) { return 99 - wish / 10; }
    }
    static final class Sick extends Student {
        @Override int burns(int given, int x) { return x > 50 ? 599 : super.burns(given, x); }
        @Override int spared() { return -1; }
        @Override int worth(int wish) { return 2 * super.worth(wish); }
    }
    static final class Informer extends Baker {
        @Override int burns(int given, int x) { return Math.min(599, super.burns(given, x) + 30); }
        @Override int paid() { return 0; }
        @Override int worth(int wish) { return super.worth(wish) - 9; }
    }
    static final class Blind extends Plain {
        @Override int burns(int given, int x) { return 0; }
        @Override int worth(int wish) { return 1; }
    }
    static final Plain[] KINDS = {new Plain(), new Student(), new Baker(), new Sick(), new Informer(), new Blind()};

    static final class One {
        int number, kind, stair, wish, clock, fear, out, purse, read, chink;
        One copy() {
            One o = new One();
            o.number = number; o.kind = kind; o.stair = stair; o.wish = wish; o.clock = clock;
            o.fear = fear; o.out = out; o.purse = purse; o.read = read; o.chink = chink;
            return o;
        }
        int minute() { return out + clock; }
        int worth() { return KINDS[kind].worth(wish); }
        boolean is(int k) { return KINDS[k].getClass().isInstance(KINDS[kind]); }
    }

    record Text(int key, List<String> words, int pieces) { }

    static final class State {
        List<One> all = new ArrayList<>();
        int law = 0, price = 10, night = 0, z = 1;
        List<Text> texts = new ArrayList<>();
        State copy() {
            State s = new State();
            for (One o : all) s.all.add(o.copy());
            s.law = law; s.price = price; s.night = night; s.z = z;
            s.texts.addAll(texts);
            return s;
        }
        int draw() { z = z * 1103515245 + 12345; return z >>> 8; }
        int which(int key) {
            for (int i = texts.size() - 1; i >= 0; i--) if (texts.get(i).key() == key) return i;
            return -1;
        }
        int given(int key, int without, String names, int... values) {
            int i = which(key);
            return i < 0 ? without : value(texts.get(i).words(), names, values);
        }
        int burns(One o, int x) {
            return KINDS[o.kind].burns(given(0, o.wish - o.fear + x, "wfx", o.wish, o.fear, x), x);
        }
        int pass() {
            int total = 0;
            for (One o : all) { o.out = burns(o, draw() % 60); o.read += o.out; }
            List<One> paid = new ArrayList<>();
            for (int s = 0; s < 3; s++) {
                List<One> on = new ArrayList<>();
                for (One o : all) if (o.stair == s) on.add(o);
                if (on.isEmpty()) continue;
                int cost = price * on.stream().mapToInt(o -> o.out).sum() / 100;
                total += cost;
                List<One> sorted = new ArrayList<>(on);
                sorted.sort(Comparator.comparingInt((One o) -> o.minute()).thenComparingInt(o -> o.number).reversed());
                if (law == 0) pay(sorted.get(0), cost, paid);
                if (law == 2) pay(sorted.get(sorted.size() > 1 ? 1 : 0), cost, paid);
                if (law == 3) pay(on.get(draw() % on.size()), cost, paid);
                if (law == 1) {
                    for (One o : on) o.purse -= cost / on.size();
                    sorted.get(0).purse -= cost % on.size();
                    if (cost > 0) paid.addAll(on);
                }
                for (int i = 0; i < on.size(); i++) {
                    int above = on.get((i + 1) % on.size()).out - on.get(i).out;
                    if (above > 0) on.get(i).chink += above;
                }
            }
            for (One o : all) {
                o.fear += paid.contains(o) ? KINDS[o.kind].paid() : KINDS[o.kind].spared();
                o.fear = Math.max(0, Math.min(300, o.fear));
            }
            night++;
            return total;
        }
        void pay(One o, int cost, List<One> paid) { o.purse -= cost; if (cost > 0) paid.add(o); }
        State after(int n) { for (int i = 0; i < n; i++) pass(); return this; }
        int out() { return all.stream().mapToInt(o -> o.out).sum(); }
        int purse() { return all.stream().mapToInt(o -> o.purse).sum(); }
        int read() { return all.stream().mapToInt(o -> o.read).sum(); }
        int chink() { return all.stream().mapToInt(o -> o.chink).sum(); }
        int wish() { return all.stream().mapToInt(o -> o.wish).sum(); }
    }

    State s = new State(), image = null;
    List<Integer> tape = new ArrayList<>(), waiting = new ArrayList<>();
    // A row of Short or Float; null in a row of floats is no number.
    Object[][] sheets = new Object[4][];
    Object[] slots = new Object[5];

    static boolean in(int v, int a, int b) { return v >= a && v <= b; }
    boolean is(int l) { return l >= 0 && l < s.all.size(); }

    int lodger(int kind, int stair, int wish) {
        if (!in(kind, 0, 5) || !in(stair, 0, 2) || !in(wish, 0, 599)) return BAD;
        if (s.all.size() == 10) return FULL;
        One o = new One();
        o.number = s.all.size(); o.kind = kind; o.stair = stair; o.wish = wish;
        s.all.add(o);
        return o.number;
    }
    int told(int l, int what) {
        if (!is(l) || !in(what, 0, 9)) return BAD;
        One o = s.all.get(l);
        return new int[] {o.kind, o.stair, o.wish, o.clock, o.fear, o.out, o.purse, o.read, o.chink, o.worth()}[what];
    }
    int burns(int l, int x) { return is(l) && in(x, 0, 59) ? s.burns(s.all.get(l), x) : BAD; }
    int as(int l, int kind) {
        if (!is(l) || !in(kind, 0, 5)) return BAD;
        return s.all.get(l).is(kind) ? s.all.get(l).wish : KIND;
    }
    int turns(int l, int kind) {
        if (!is(l) || !in(kind, 0, 5)) return BAD;
        int was = s.all.get(l).kind;
        s.all.get(l).kind = kind;
        return was;
    }
    int set(int l, int what, int v) {
        if (!is(l)) return BAD;
        One o = s.all.get(l);
        int was = what >= 1 && what <= 4 ? told(l, what) : BAD;
        if (what == 1 && in(v, 0, 2)) o.stair = v;
        else if (what == 2 && in(v, 0, 599)) o.wish = v;
        else if (what == 3 && in(v, -60, 60)) o.clock = v;
        else if (what == 4 && in(v, 0, 300)) o.fear = v;
        else return BAD;
        return was;
    }
    int rule(int what, int v) {
        int was;
        if (what == 0 && in(v, 0, 3)) { was = s.law; s.law = v; return was; }
        if (what == 1 && in(v, 0, 99)) { was = s.price; s.price = v; return was; }
        return BAD;
    }
    int deal(int n) {
        if (!in(n, 1, 10)) return BAD;
        int came = 0;
        while (came < n && s.all.size() < 10) {
            int k = s.draw() % 6, st = s.draw() % 3, w = s.draw() % 600;
            lodger(k, st, w);
            came++;
        }
        return came;
    }
    int seed(int v) { int was = s.z; s.z = v; return was; }
    int nights(int n) {
        if (!in(n, 1, 100)) return BAD;
        int paid = 0;
        for (int i = 0; i < n && s.night < 9999; i++) paid += s.pass();
        return paid;
    }
    int house(int what) {
        if (!in(what, 0, 6)) return BAD;
        if (what < 4) return new int[] {s.out(), s.purse(), s.read(), s.chink()}[what];
        int bits = 0;
        for (One o : s.all) if (o.stair == what - 4) bits += 1 << o.number;
        return bits;
    }
    int longest() {
        return s.all.stream().max(Comparator.comparingInt((One o) -> o.out).thenComparingInt(o -> -o.number)).map(o -> o.number).orElse(NONE);
    }
    int behind(int n, int what) {
        if (!in(n, 0, 100) || !in(what, 0, 2 + s.all.size())) return BAD;
        State t = s.copy().after(n);
        return what == 0 ? t.read() : what == 1 ? t.purse() : what == 2 ? t.chink() : t.all.get(what - 3).purse;
    }
    int bestLaw(int n, int what) {
        if (!in(n, 1, 60) || !in(what, 0, 1)) return BAD;
        int[] read = new int[4];
        for (int law = 0; law < 4; law++) { State t = s.copy(); t.law = law; read[law] = t.after(n).read(); }
        int best = 3;
        for (int law = 2; law >= 0; law--) if (read[law] >= read[best]) best = law;
        return what == 0 ? best : read[best];
    }
    int bedtime(int l, int n, int what) {
        if (!is(l) || !in(n, 1, 40) || !in(what, 0, 1)) return BAD;
        int best = -1, most = 0;
        for (int w = 580; w >= 0; w -= 20) {
            State t = s.copy();
            t.all.get(l).wish = w;
            t.after(n);
            int sum = t.all.get(l).read + t.all.get(l).purse;
            if (best < 0 || sum >= most) { best = w; most = sum; }
        }
        return what == 0 ? best : most;
    }
    int wrong(int l, int n, int what) {
        if (!is(l) || !in(n, 1, 40) || !in(what, 0, 1)) return BAD;
        List<int[]> tries = new ArrayList<>();
        for (int c = -60; c <= 60; c += 10) {
            State t = s.copy();
            t.all.get(l).clock = c;
            tries.add(new int[] {c, t.after(n).all.get(l).purse});
        }
        tries.sort(Comparator.comparingInt((int[] a) -> -a[1]).thenComparingInt(a -> Math.abs(a[0])).thenComparingInt(a -> a[0]));
        return tries.get(0)[what];
    }
    int moved(int l, int n, int what) {
        if (!is(l) || !in(n, 1, 60) || !in(what, 0, 1)) return BAD;
        List<int[]> tries = new ArrayList<>();
        for (int st = 0; st < 3; st++) {
            State t = s.copy();
            t.all.get(l).stair = st;
            tries.add(new int[] {st, t.after(n).all.get(l).purse});
        }
        tries.sort(Comparator.comparingInt((int[] a) -> -a[1]).thenComparingInt(a -> a[0]));
        return tries.get(0)[what];
    }
    int dark() {
        for (int n = 1; n <= 200; n++) if (s.copy().after(n).out() < s.wish() / 2) return n;
        return NONE;
    }
    int wished(int sheet, int l, int what) {
        if (!in(sheet, 0, 3) || !is(l) || !in(what, 0, 1)) return BAD;
        if (sheets[sheet] == null) return NOTHING;
        int best = -1, least = 0;
        for (int w = 0; w <= 580; w += 20) {
            State t = s.copy();
            t.all.get(l).wish = w;
            int sum = 0;
            for (Object place : sheets[sheet]) {
                t.pass();
                if (place != null) sum += Math.abs(t.all.get(l).out - ((Number) place).intValue());
            }
            if (best < 0 || sum < least) { best = w; least = sum; }
        }
        return what == 0 ? best : least;
    }
    int fee() { return s.given(1, s.price, "np", s.night, s.price); }
    int fine(int l) {
        if (!is(l)) return BAD;
        One o = s.all.get(l);
        return s.given(2, o.read, "rc", o.read, o.chink);
    }
    int feed(int a, int b, int c) {
        if (tape.size() > 84) return FULL;
        for (int v : new int[] {a, b, c}) for (int k = 3; k >= 0; k--) tape.add(v >> 8 * k & 255);
        return tape.size();
    }
    int trim(int n) {
        if (!in(n, 0, tape.size())) return BAD;
        tape = new ArrayList<>(tape.subList(0, n));
        return n;
    }

    static String sortOf(int b) { return b >= 'a' && b <= 'z' ? "letters" : b >= '0' && b <= '9' ? "digits" : "" + b; }

    /** Words and where they stand; a word that needs a blank has a ? ahead of it. */
    static List<String> cut(List<Integer> bytes, List<Integer> places) {
        List<String> words = new ArrayList<>();
        String sort = "";
        for (int i = 0; i < bytes.size(); i++) {
            int b = bytes.get(i);
            String next = sortOf(b);
            boolean word = next.length() > 3 && !next.isEmpty() && !Character.isDigit(next.charAt(0));
            boolean behindWord = sort.equals("letters") || sort.equals("digits");
            if (b == ' ') { sort = ""; continue; }
            if (word && next.equals(sort)) {
                words.set(words.size() - 1, words.get(words.size() - 1) + (char) b);
            } else {
                words.add((word && behindWord ? "?" : "") + (char) b);
                places.add(i);
            }
            sort = next;
        }
        return words;
    }

    /** -1, or the place of the fault, by a machine of two states: a piece is due, or a sign is. */
    static int fault(List<Integer> bytes, List<String> words) {
        List<Integer> places = new ArrayList<>();
        words.addAll(cut(bytes, places));
        if (words.isEmpty()) return bytes.size();
        int key = List.of("burn", "fee", "fine").indexOf(words.get(0));
        if (key < 0) return places.get(0);
        String names = new String[] {"wfx", "np", "rc"}[key];
        ArrayDeque<Character> open = new ArrayDeque<>();
        ArrayDeque<Boolean> tested = new ArrayDeque<>();
        tested.push(false);
        boolean pieceDue = true;
        for (int i = 1; i < words.size(); i++) {
            String w = words.get(i);
            char c = w.charAt(0);
            boolean ok;
            if (pieceDue) {
                if (w.equals("!")) { ok = open.stream().filter(o -> o == '!').count() < 8; open.push('!'); }
                else if (w.equals("(")) { ok = open.stream().filter(o -> o == '(').count() < 8; open.push('('); tested.push(false); }
                else {
                    ok = w.matches("[0-9]{1,4}") || (w.length() == 1 && names.indexOf(c) >= 0);
                    pieceDue = false;
                    while (!open.isEmpty() && open.peek() == '!') open.pop();
                }
            } else if (w.equals(")")) {
                ok = !open.isEmpty();
                if (ok) { open.pop(); tested.pop(); }
                while (!open.isEmpty() && open.peek() == '!') open.pop();
            } else {
                ok = w.length() == 1 && "|&<=>+-*/".indexOf(c) >= 0;
                pieceDue = true;
                if (ok && "<=>".indexOf(c) >= 0) { ok = !tested.pop(); tested.push(true); }
                if (ok && "|&".indexOf(c) >= 0) { tested.pop(); tested.push(false); }
            }
            if (!ok) return places.get(i);
        }
        return pieceDue || !open.isEmpty() ? bytes.size() : -1;
    }

    /** The value of good words: the loosest sign outside of all brackets is worked out last. */
    static int value(List<String> words, String names, int[] values) {
        String[] levels = {"|", "&", "<=>", "+-", "*/"};
        for (String level : levels) {
            int depth = 0;
            for (int i = words.size() - 1; i > 0; i--) {
                String w = words.get(i);
                if (w.equals(")")) depth++;
                if (w.equals("(")) depth--;
                if (depth == 0 && level.contains(w)) {
                    int a = value(words.subList(0, i), names, values);
                    int b = value(words.subList(i + 1, words.size()), names, values);
                    return join(w.charAt(0), a, b);
                }
            }
        }
        String first = words.get(0);
        if (first.equals("!")) return value(words.subList(1, words.size()), names, values) == 0 ? 1 : 0;
        if (first.equals("(")) return value(words.subList(1, words.size() - 1), names, values);
        return Character.isDigit(first.charAt(0)) ? Integer.parseInt(first) : values[names.indexOf(first)];
    }
    static int join(char sign, int a, int b) {
        return switch (sign) {
            case '|' -> a != 0 || b != 0 ? 1 : 0;
            case '&' -> a != 0 && b != 0 ? 1 : 0;
            case '<' -> a < b ? 1 : 0;
            case '=' -> a == b ? 1 : 0;
            case '>' -> a > b ? 1 : 0;
            case '+' -> a + b;
            case '-' -> a - b;
            case '*' -> a * b;
            default -> b == 0 ? 0 : a / b;
        };
    }
    int text() {
        List<String> words = new ArrayList<>();
        int fault = fault(tape, words);
        tape.clear();
        if (fault >= 0) return -100 - fault;
        if (s.texts.size() == 14) return FULL;
        int key = List.of("burn", "fee", "fine").indexOf(words.remove(0));
        int pieces = (int) words.stream().filter(w -> w.matches("[0-9a-z]+")).count();
        s.texts.add(new Text(key, words, pieces));
        return s.texts.size() - 1;
    }
    int textTold(int text, int what) {
        if (!in(text, 0, s.texts.size() - 1) || !in(what, 0, 1)) return BAD;
        return what == 0 ? s.texts.get(text).key() : s.texts.get(text).pieces();
    }
    int why(int key) {
        if (!in(key, 0, 2)) return BAD;
        return s.which(key) < 0 ? NONE : s.which(key);
    }
    int sheet(int sheet, int sort, int n) {
        if (!in(sheet, 0, 3) || !in(sort, -1, 1) || (sort >= 0 && n > 24)) return BAD;
        if (sort >= 0 && n < 0) return SIZE;
        sheets[sheet] = sort < 0 ? null : sort == 0 ? new Short[n] : new Float[n];
        for (int i = 0; sort >= 0 && i < n; i++) if (sort == 0) sheets[sheet][i] = (short) 0; else sheets[sheet][i] = 0f;
        return sort < 0 ? 0 : n;
    }
    int mark(int sheet, int place, int v) {
        if (!in(sheet, 0, 3)) return BAD;
        Object[] row = sheets[sheet];
        if (row == null) return NOTHING;
        if (!in(place, 0, row.length - 1)) return INDEX;
        if (row instanceof Short[]) {
            if (v == NONE) return KIND;
            row[place] = (short) v;
        } else {
            if (v != NONE && Math.abs((long) v) > 99999) return BAD;
            row[place] = v == NONE ? null : (Float) (float) v;
        }
        return 1;
    }
    int pour(int sheet) {
        if (!in(sheet, 0, 3)) return BAD;
        if (sheets[sheet] == null) return NOTHING;
        int changed = 0;
        for (int i = 0; i < Math.min(s.all.size(), sheets[sheet].length); i++) {
            if (sheets[sheet][i] == null) continue;
            int w = Math.max(0, Math.min(599, ((Number) sheets[sheet][i]).intValue()));
            if (s.all.get(i).wish != w) changed++;
            s.all.get(i).wish = w;
        }
        return changed;
    }
    int reads(int sheet) {
        if (!in(sheet, 0, 3)) return BAD;
        if (sheets[sheet] == null) return NOTHING;
        for (int i = 0; i < sheets[sheet].length; i++) {
            if (sheets[sheet][i] == null) continue;
            if (i >= s.all.size() || ((Number) sheets[sheet][i]).intValue() != s.all.get(i).out) return i;
        }
        return NONE;
    }
    int copy(int from, int place, int to, int at, int many) {
        if (!in(from, 0, 3) || !in(to, 0, 3)) return BAD;
        Object[] a = sheets[from], b = sheets[to];
        if (a == null || b == null) return NOTHING;
        if (a.getClass() != b.getClass()) return KIND;
        if (place < 0 || at < 0 || many < 0 || (long) place + many > a.length || (long) at + many > b.length) return INDEX;
        Object[] were = a.clone();
        for (int i = 0; i < many; i++) b[at + i] = were[place + i];
        return many;
    }
    int thing(int slot) {
        Object o = slots[slot];
        return o == null ? 0 : o instanceof One ? 1 : o instanceof Object[] ? 2 : 3;
    }
    int lay(int slot, int thing, int k) {
        if (!in(slot, 0, 4) || !in(thing, 0, 3)) return BAD;
        if ((thing == 1 && !is(k)) || (thing == 2 && !in(k, 0, 3))) return BAD;
        if (thing == 2 && sheets[k] == null) return NOTHING;
        int was = thing(slot);
        slots[slot] = thing == 0 ? null : thing == 1 ? s.all.get(k).copy() : thing == 2 ? sheets[k].clone() : (Object) (Integer) k;
        return was;
    }
    int ask(int slot, int kind) {
        if (!in(slot, 0, 4) || !in(kind, 0, 5)) return BAD;
        if (thing(slot) == 0) return NOTHING;
        return slots[slot] instanceof One o && o.is(kind) ? o.worth() : KIND;
    }
    int item(int slot, int place) {
        if (!in(slot, 0, 4)) return BAD;
        if (thing(slot) == 0) return NOTHING;
        if (!(slots[slot] instanceof Object[] row)) return KIND;
        if (!in(place, 0, row.length - 1)) return INDEX;
        return row[place] == null ? KIND : ((Number) row[place]).intValue();
    }
    int rest(int slot, int n) {
        if (!in(slot, 0, 4)) return BAD;
        if (thing(slot) == 0) return NOTHING;
        if (!(slots[slot] instanceof Integer number)) return KIND;
        return n == 0 ? NO : (int) ((long) number % n);
    }
    int tell(int v) {
        if (waiting.size() == 60) return FULL;
        waiting.add(v);
        return waiting.size();
    }
    int check(int n) {
        List<Integer> given = waiting;
        waiting = new ArrayList<>();
        if (!in(n, 1, 30)) return BAD;
        if (image == null) return NO;
        List<Integer> right = nightsTold(n);
        int same = 0;
        while (same < given.size() && same < right.size() && given.get(same).equals(right.get(same))) same++;
        return same == given.size() && same == right.size() ? 0 : 1 + same;
    }
    List<Integer> nightsTold(int n) {
        List<Integer> right = new ArrayList<>();
        State t = image.copy();
        for (int i = 0; i < n && t.night < 9999; i++) { t.pass(); right.add(t.out()); right.add(t.purse()); }
        return right;
    }
    int keep() { image = s.copy(); return s.all.size(); }
    int back() {
        if (image == null) return NO;
        s = image.copy();
        return s.all.size();
    }
    int count(int what) {
        if (!in(what, 0, 7)) return BAD;
        return new int[] {s.all.size(), s.night, s.law, s.price, s.texts.size(), waiting.size(), tape.size(), s.z}[what];
    }
}
