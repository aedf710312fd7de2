/** Promises 28 to 36: sheets and slots. */
public final class SheetsTest {
    private static final int BAD = LastLight.BAD, NO = LastLight.NO, NONE = LastLight.NONE, NOTHING = LastLight.NOTHING;
    private static final int KIND = LastLight.KIND, INDEX = LastLight.INDEX, SIZE = LastLight.SIZE;
    private static final int MIN = Integer.MIN_VALUE, MAX = Integer.MAX_VALUE;

    public static void main(String[] args) {
        sheet();
        mark();
        pour();
        reads();
        copy();
        copyWithin();
        lay();
        ask();
        item();
        rest();
        Due.end();
    }

    private static void due(String call, long got, long want) { Due.due(call, got, want); }

    /** What stands at a place of a sheet, by way of slot 4. */
    private static int at(LastLight x, int sheet, int place) {
        x.lay(4, 2, sheet);
        return x.item(4, place);
    }

    private static void row(LastLight x, int sheet, int... values) {
        for (int i = 0; i < values.length; i++) {
            x.mark(sheet, i, values[i]);
        }
    }

    private static void rowIs(LastLight x, String name, int sheet, int... values) {
        for (int i = 0; i < values.length; i++) {
            due(name + " " + i, at(x, sheet, i), values[i]);
        }
        due(name + " has no more", at(x, sheet, values.length), INDEX);
    }

    private static void sheet() {
        LastLight x = new LastLight();
        due("sheet -1", x.sheet(-1, 0, 1), BAD);
        due("sheet 4", x.sheet(4, 0, 1), BAD);
        due("sort 2", x.sheet(0, 2, 1), BAD);
        due("sort -2", x.sheet(0, -2, 1), BAD);
        due("25 places", x.sheet(0, 1, 25), BAD);
        due("-1 places", x.sheet(0, 0, -1), SIZE);
        due("bad sort ahead of size", x.sheet(0, 2, -1), BAD);
        due("still missing", x.reads(0), NOTHING);
        due("24 places", x.sheet(0, 0, 24), 24);
        due("0 places", x.sheet(1, 1, 0), 0);
        due("no place", x.mark(1, 0, 1), INDEX);
        due("last place", x.mark(0, 23, 5), 1);
        due("first place", x.mark(0, 0, 6), 1);
        due("again", x.sheet(0, 1, 24), 24);
        due("all 0", at(x, 0, 23), 0);
        due("all 0 from the first on", at(x, 0, 0), 0);
        due("refused", x.sheet(0, 0, MIN), SIZE);
        due("as it was", at(x, 0, 23), 0);
        due("missing", x.sheet(0, -1, 7), 0);
        due("is missing", x.reads(0), NOTHING);
        due("missing, n any", x.sheet(0, -1, MAX), 0);
        due("missing, n below 0", x.sheet(0, -1, -5), 0);
    }

    private static void mark() {
        LastLight x = new LastLight();
        x.sheet(0, 0, 2);
        x.sheet(1, 1, 2);
        due("mark -1", x.mark(-1, 0, 0), BAD);
        due("mark 4", x.mark(4, 0, 0), BAD);
        due("mark missing", x.mark(2, 99, NONE), NOTHING);
        due("place 2", x.mark(0, 2, NONE), INDEX);
        due("place -1", x.mark(1, -1, MAX), INDEX);
        due("none of shorts", x.mark(0, 0, NONE), KIND);
        due("none of floats", x.mark(1, 0, NONE), 1);
        due("no number", at(x, 1, 0), KIND);
        int[][] shorts = {{32767, 32767}, {32768, -32768}, {-32769, 32767}, {65541, 5}, {-1, -1}, {MIN, 0}, {MAX, -1}};
        for (int[] s : shorts) {
            due("short " + s[0], x.mark(0, 1, s[0]), 1);
            due("short " + s[0] + " is", at(x, 0, 1), s[1]);
        }
        for (int v : new int[] {99999, -99999, 0, 70000}) {
            due("float " + v, x.mark(1, 1, v), 1);
            due("float " + v + " is", at(x, 1, 1), v);
        }
        for (int v : new int[] {100000, -100000, MIN, MAX, LastLight.BAD}) {
            due("float " + v, x.mark(1, 1, v), BAD);
        }
        due("as it was", at(x, 1, 1), 70000);
        due("a number again", x.mark(1, 0, 3), 1);
        due("is 3", at(x, 1, 0), 3);
    }

    private static void pour() {
        LastLight x = new LastLight();
        for (int i = 0; i < 4; i++) {
            x.lodger(0, 0, 100 + i);
        }
        due("pour -1", x.pour(-1), BAD);
        due("pour 4", x.pour(4), BAD);
        due("pour missing", x.pour(0), NOTHING);
        x.sheet(0, 1, 3);
        row(x, 0, 100, NONE, 700);
        due("pour", x.pour(0), 1);
        due("wish 0", x.told(0, 2), 100);
        due("wish 1", x.told(1, 2), 101);
        due("wish 2", x.told(2, 2), 599);
        due("wish 3", x.told(3, 2), 103);
        x.sheet(1, 0, 24);
        row(x, 1, -1, 599, 600, 1);
        due("pour more", x.pour(1), 3);
        int[] wishes = {0, 599, 599, 1};
        for (int i = 0; i < 4; i++) {
            due("wish then " + i, x.told(i, 2), wishes[i]);
        }
        due("pour again", x.pour(1), 0);
        x.sheet(2, 0, 0);
        due("pour nothing", x.pour(2), 0);
    }

    private static void reads() {
        LastLight x = new LastLight();
        Due.textOf(x, "burn w");
        x.lodger(0, 0, 100);
        x.lodger(0, 0, 200);
        x.nights(1);
        due("reads -1", x.reads(-1), BAD);
        due("reads 4", x.reads(4), BAD);
        due("reads missing", x.reads(3), NOTHING);
        x.sheet(0, 1, 4);
        row(x, 0, 100, 200, NONE, NONE);
        due("all as out", x.reads(0), NONE);
        x.mark(0, 3, 0);
        due("no lodger", x.reads(0), 3);
        x.mark(0, 1, 201);
        due("not out", x.reads(0), 1);
        x.mark(0, 0, 99);
        due("the first", x.reads(0), 0);
        x.mark(0, 0, NONE);
        x.mark(0, 1, NONE);
        due("no numbers", x.reads(0), 3);
        x.sheet(1, 0, 1);
        x.mark(1, 0, 100);
        due("shorter", x.reads(1), NONE);
        x.sheet(1, 0, 0);
        due("no places", x.reads(1), NONE);
    }

    private static void copy() {
        LastLight x = new LastLight();
        x.sheet(0, 1, 3);
        row(x, 0, 1, NONE, 3);
        x.sheet(1, 1, 5);
        x.sheet(2, 0, 5);
        due("copy", x.copy(0, 1, 1, 3, 2), 2);
        rowIs(x, "copied", 1, 0, 0, 0, KIND, 3);
        rowIs(x, "source", 0, 1, KIND, 3);
        due("nothing", x.copy(0, 3, 1, 5, 0), 0);
        due("from -1", x.copy(-1, 0, 1, 0, 1), BAD);
        due("from 4", x.copy(4, 0, 1, 0, 1), BAD);
        due("to -1", x.copy(0, 0, -1, 0, 1), BAD);
        due("to 4", x.copy(0, 0, 4, 0, 1), BAD);
        due("from missing", x.copy(3, 0, 2, 0, 1), NOTHING);
        due("to missing", x.copy(2, 9, 3, 0, 1), NOTHING);
        due("bad ahead of missing", x.copy(3, 0, 4, 0, 1), BAD);
        due("other sort", x.copy(0, 0, 2, 0, 1), KIND);
        due("other sort ahead of places", x.copy(2, -1, 0, 99, -1), KIND);
        due("place -1", x.copy(0, -1, 1, 0, 1), INDEX);
        due("at -1", x.copy(0, 0, 1, -1, 1), INDEX);
        due("many -1", x.copy(0, 0, 1, 0, -1), INDEX);
        due("beyond the source", x.copy(0, 1, 1, 0, 3), INDEX);
        due("beyond the target", x.copy(0, 0, 1, 3, 3), INDEX);
        due("place 4, none", x.copy(0, 4, 1, 0, 0), INDEX);
        due("at 6, none", x.copy(0, 0, 1, 6, 0), INDEX);
        due("max", x.copy(0, MAX, 1, MAX, MAX), INDEX);
        due("max from 1", x.copy(0, 1, 1, 1, MAX), INDEX);
        due("min", x.copy(0, MIN, 1, MIN, MIN), INDEX);
        rowIs(x, "as it was", 1, 0, 0, 0, KIND, 3);
    }

    private static void copyWithin() {
        LastLight x = new LastLight();
        x.sheet(0, 0, 5);
        row(x, 0, 1, 2, 3, 4, 5);
        due("up", x.copy(0, 0, 0, 1, 4), 4);
        rowIs(x, "up", 0, 1, 1, 2, 3, 4);
        due("down", x.copy(0, 2, 0, 0, 3), 3);
        rowIs(x, "down", 0, 2, 3, 4, 3, 4);
    }

    private static void lay() {
        LastLight x = new LastLight();
        x.lodger(0, 0, 100);
        x.sheet(0, 0, 1);
        due("slot -1", x.lay(-1, 0, 0), BAD);
        due("slot 5", x.lay(5, 0, 0), BAD);
        due("thing -1", x.lay(0, -1, 0), BAD);
        due("thing 4", x.lay(0, 4, 0), BAD);
        due("lodger 1", x.lay(0, 1, 1), BAD);
        due("lodger -1", x.lay(0, 1, -1), BAD);
        due("sheet 4", x.lay(0, 2, 4), BAD);
        due("sheet -1", x.lay(0, 2, -1), BAD);
        due("sheet missing", x.lay(0, 2, 1), NOTHING);
        due("nothing, any k", x.lay(0, 0, -77), 0);
        due("lodger", x.lay(0, 1, 0), 0);
        due("sheet", x.lay(0, 2, 0), 1);
        due("refused", x.lay(0, 2, 1), NOTHING);
        due("number", x.lay(0, 3, MIN), 2);
        due("number again", x.lay(0, 3, 5), 3);
        due("nothing", x.lay(0, 0, 0), 3);
        due("holds nothing", x.lay(0, 0, 0), 0);
        due("slot 4", x.lay(4, 3, 1), 0);
    }

    private static void ask() {
        LastLight x = new LastLight();
        x.lodger(4, 0, 400);
        due("nothing", x.ask(0, 0), NOTHING);
        due("slot 5", x.ask(5, 0), BAD);
        due("slot -1", x.ask(-1, 0), BAD);
        due("kind 6", x.ask(0, 6), BAD);
        due("kind -1", x.ask(0, -1), BAD);
        x.lay(0, 1, 0);
        int[] asked = {50, KIND, 50, KIND, 50, KIND};
        for (int kind = 0; kind < 6; kind++) {
            due("ask " + kind, x.ask(0, kind), asked[kind]);
        }
        x.turns(0, 1);
        x.set(0, 2, 0);
        due("for good", x.ask(0, 4), 50);
        x.keep();
        x.back();
        due("for good, by an image too", x.ask(0, 4), 50);
        x.lay(1, 3, 7);
        due("a number", x.ask(1, 0), KIND);
        x.sheet(0, 0, 1);
        x.lay(1, 2, 0);
        due("a sheet", x.ask(1, 0), KIND);
    }

    private static void item() {
        LastLight x = new LastLight();
        x.sheet(0, 1, 2);
        row(x, 0, 12, NONE);
        due("nothing", x.item(0, 0), NOTHING);
        due("slot 5", x.item(5, 0), BAD);
        due("slot -1", x.item(-1, 0), BAD);
        x.lay(0, 3, 5);
        due("a number", x.item(0, 99), KIND);
        x.lodger(0, 0, 0);
        x.lay(0, 1, 0);
        due("a lodger", x.item(0, 0), KIND);
        x.lay(0, 2, 0);
        x.mark(0, 0, 13);
        due("as it was then", x.item(0, 0), 12);
        x.sheet(0, -1, 0);
        due("a row of its own", x.item(0, 0), 12);
        due("no number", x.item(0, 1), KIND);
        due("place 2", x.item(0, 2), INDEX);
        due("place -1", x.item(0, -1), INDEX);
        due("place max", x.item(0, MAX), INDEX);
    }

    private static void rest() {
        LastLight x = new LastLight();
        due("nothing", x.rest(0, 0), NOTHING);
        due("slot 5", x.rest(5, 0), BAD);
        due("slot -1", x.rest(-1, 0), BAD);
        x.sheet(0, 0, 1);
        x.lay(0, 2, 0);
        due("a sheet", x.rest(0, 0), KIND);
        x.lay(0, 3, 17);
        due("rest", x.rest(0, 5), 2);
        due("rest by -5", x.rest(0, -5), 2);
        due("by 0", x.rest(0, 0), NO);
        x.lay(0, 3, -17);
        due("rest below", x.rest(0, 5), -2);
        x.lay(0, 3, MIN);
        due("rest of min", x.rest(0, -1), 0);
        due("rest by min", x.rest(0, MIN), 0);
    }
}
