import java.util.ArrayList;
import java.util.List;
import java.util.function.Supplier;

/** What the tests of boundary cases share: a house with something of everything, and all that can be told of one. */
final class Edges {
    static final int MIN = Integer.MIN_VALUE, MAX = Integer.MAX_VALUE;

    private Edges() { }

    interface Call { int on(LastLight x); }

    interface CallWith { int on(LastLight x, int v); }

    /** Lodgers of kind 0 with these wishes, all on stair 0, that burn by a text. */
    static LastLight with(String text, int... wishes) {
        LastLight x = new LastLight();
        Due.textOf(x, text);
        for (int wish : wishes) {
            x.lodger(0, 0, wish);
        }
        return x;
    }

    /** One that burns till 100 each night for 10 coins, at a night. */
    static LastLight atNight(int night) {
        LastLight x = with("burn w", 100);
        for (int left = night; left > 0; left -= 100) {
            x.nights(Math.min(100, left));
        }
        return x;
    }

    private static LastLight kept() {
        LastLight x = new LastLight();
        x.seed(20261118);
        x.lodger(1, 0, 300);
        x.lodger(2, 0, 480);
        x.lodger(3, 1, 120);
        x.lodger(4, 2, 599);
        x.set(0, 3, -15);
        x.set(1, 3, 60);
        x.rule(0, 1);
        x.rule(1, 33);
        Due.textOf(x, "burn w-f/2+x");
        Due.textOf(x, "fee n*7+p");
        x.nights(3);
        return x;
    }

    /**
     * Five lodgers; three texts; sheets 0 of three shorts, 1 of four floats (the first no number), 2 without
     * places, 3 missing; slots 0 with nothing, 1 a lodger (SICK), 2 sheet 1, 3 the number -1000, 4 sheet 2.
     */
    static LastLight house() {
        LastLight x = kept();
        x.sheet(0, 0, 3);
        x.mark(0, 0, 310);
        x.mark(0, 2, -9);
        x.sheet(1, 1, 4);
        x.mark(1, 0, LastLight.NONE);
        x.mark(1, 1, 99999);
        x.mark(1, 2, 250);
        x.sheet(2, 0, 0);
        x.lay(1, 1, 2);
        x.lay(2, 2, 1);
        x.lay(3, 3, -1000);
        x.lay(4, 2, 2);
        x.keep();
        x.nights(2);
        x.rule(0, 2);
        x.rule(1, 44);
        x.turns(0, 0);
        x.deal(1);
        Due.textOf(x, "fine r-c");
        return x;
    }

    /** As house, and two numbers wait that are the night told of the image, and a text is on the tape. */
    static LastLight laden() {
        LastLight x = house();
        LastLight night = kept();
        night.nights(1);
        x.tell(night.house(0));
        x.tell(night.house(1));
        Due.onTape(x, "fee n+p*2");
        return x;
    }

    /** All that can be told of an object, at the cost of its slots, tape and what waits. */
    static int[] all(LastLight x) {
        List<Integer> row = new ArrayList<>();
        ofNow(x, row);
        for (int slot = 0; slot < 5; slot++) {
            row.add(x.ask(slot, 0));
            row.add(x.rest(slot, 1000003));
            places(x, slot, row);
        }
        for (int sheet = 0; sheet < 4; sheet++) {
            // A row of shorts is told from one of floats by what it does not take.
            row.add(x.copy(sheet, 0, 0, 0, 0));
            row.add(x.lay(4, 2, sheet));
            places(x, 4, row);
            x.lay(4, 0, 0);
        }
        row.add(x.check(1));
        row.add(x.text());
        row.add(x.fee());
        row.add(x.back());
        ofNow(x, row);
        return row.stream().mapToInt(Integer::intValue).toArray();
    }

    private static void ofNow(LastLight x, List<Integer> row) {
        for (int what = 0; what < 8; what++) {
            row.add(x.count(what));
        }
        for (int lodger = 0; lodger < x.count(0); lodger++) {
            for (int what = 0; what < 9; what++) {
                row.add(x.told(lodger, what));
            }
            row.add(x.fine(lodger));
            row.add(x.burns(lodger, 7));
        }
        for (int text = 0; text < x.count(4); text++) {
            row.add(x.textTold(text, 0));
            row.add(x.textTold(text, 1));
        }
        for (int key = 0; key < 3; key++) {
            row.add(x.why(key));
        }
        row.add(x.fee());
        row.add(x.longest());
    }

    private static void places(LastLight x, int slot, List<Integer> row) {
        int item = 0;
        for (int place = 0; place < 25 && item != LastLight.INDEX; place++) {
            item = x.item(slot, place);
            row.add(item);
            if (item == LastLight.NOTHING) {
                return;
            }
        }
    }

    static void same(String name, LastLight x, LastLight y) {
        int[] a = all(x), b = all(y);
        Due.due(name + ": how much is told", a.length, b.length);
        for (int i = 0; i < Math.min(a.length, b.length); i++) {
            Due.due(name + ": what is told, at " + i, a[i], b[i]);
        }
    }

    /** A call is refused as told, and changes nothing. */
    static void refused(String name, Supplier<LastLight> made, Call call, int refusal) {
        LastLight x = made.get();
        Due.due(name, call.on(x), refusal);
        same(name + " changes nothing", x, made.get());
    }

    /** A call answers as told, and changes nothing. */
    static void onlyTold(String name, Supplier<LastLight> made, Call call, int answer) {
        refused(name, made, call, answer);
    }

    /** The least and the most are taken; those right beyond, and the farthest, are refused and change nothing. */
    static void within(String name, Supplier<LastLight> made, CallWith call, int least, int most, int refusal) {
        taken(name + " " + least, call.on(made.get(), least));
        taken(name + " " + most, call.on(made.get(), most));
        for (int v : new int[] {least - 1, most + 1, MIN, MAX}) {
            refused(name + " " + v, made, x -> call.on(x, v), refusal);
        }
    }

    static void taken(String name, int got) {
        boolean refusal = got == LastLight.BAD || got == LastLight.NO || got == LastLight.FULL || got == LastLight.NOTHING || got == LastLight.KIND || got == LastLight.INDEX || got == LastLight.SIZE;
        Due.due(name + " is taken (answered " + got + "), refusals", refusal ? 1 : 0, 0);
    }
}
