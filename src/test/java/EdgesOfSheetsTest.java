/** Boundary cases of promises 28 to 36 and of the terms on SHEETS and SLOTS, each sentence by itself. */
public final class EdgesOfSheetsTest {
    private static final int BAD = LastLight.BAD, NO = LastLight.NO, NONE = LastLight.NONE, NOTHING = LastLight.NOTHING;
    private static final int KIND = LastLight.KIND, INDEX = LastLight.INDEX, SIZE = LastLight.SIZE;
    private static final int MIN = Integer.MIN_VALUE, MAX = Integer.MAX_VALUE;

    public static void main(String[] args) {
        p28Bounds();
        p28BecomesARow();
        p28Missing();
        p29Bounds();
        p29Shorts();
        p29Floats();
        p29Order();
        p30Bounds();
        p30Held();
        p30WhatStays();
        p31Bounds();
        p31Numbers();
        p31NoLodger();
        p32Bounds();
        p32Places();
        p32AsTheyWere();
        p32Order();
        p33Bounds();
        p33WhatItHeld();
        p33ForGood();
        p34Bounds();
        p34Kinds();
        p35Bounds();
        p35Places();
        p36Bounds();
        p36Rests();
        Due.end();
    }

    private static void due(String call, long got, long want) { Due.due(call, got, want); }

    /** What stands at a place of a sheet, by way of slot 4. */
    private static int at(LastLight x, int sheet, int place) {
        x.lay(4, 2, sheet);
        return x.item(4, place);
    }

    private static LastLight row(int sort, int... values) {
        LastLight x = new LastLight();
        x.sheet(0, sort, values.length);
        mark(x, 0, values);
        return x;
    }

    private static void mark(LastLight x, int sheet, int... values) {
        for (int i = 0; i < values.length; i++) {
            x.mark(sheet, i, values[i]);
        }
    }

    private static void rowIs(String name, LastLight x, int sheet, int... values) {
        for (int i = 0; i < values.length; i++) {
            due(name + ", place " + i, at(x, sheet, i), values[i]);
        }
        due(name + ", no more places", at(x, sheet, values.length), INDEX);
    }

    /** As laden, but the missing sheet is there. */
    private static LastLight allSheets() {
        LastLight x = Edges.laden();
        x.sheet(3, 0, 3);
        return x;
    }

    private static void p28Bounds() {
        Edges.within("promise 28: sheet", Edges::laden, (x, v) -> x.sheet(v, 0, 1), 0, 3, BAD);
        Edges.within("promise 28: sort", Edges::laden, (x, v) -> x.sheet(0, v, 1), -1, 1, BAD);
        for (int sort = 0; sort < 2; sort++) {
            int s = sort;
            due("promise 28: no places, sort " + s, new LastLight().sheet(0, s, 0), 0);
            due("promise 28: 24 places, sort " + s, new LastLight().sheet(3, s, 24), 24);
            for (int n : new int[] {25, 1000, MAX}) {
                Edges.refused("promise 28: " + n + " places, sort " + s, Edges::laden, x -> x.sheet(0, s, n), BAD);
            }
            for (int n : new int[] {-1, -24, MIN, NONE}) {
                Edges.refused("promise 28: " + n + " places, sort " + s, Edges::laden, x -> x.sheet(0, s, n), SIZE);
            }
        }
        Edges.refused("promise 28: BAD sheet ahead of SIZE", Edges::laden, x -> x.sheet(4, 0, -1), BAD);
        Edges.refused("promise 28: BAD sort ahead of SIZE", Edges::laden, x -> x.sheet(0, 2, -1), BAD);
        Edges.refused("promise 28: BAD sort below -1 ahead of SIZE", Edges::laden, x -> x.sheet(0, -2, -1), BAD);
    }

    private static void p28BecomesARow() {
        LastLight x = row(1, 5, NONE, 7);
        due("promise 28: anew, shorter", x.sheet(0, 1, 2), 2);
        rowIs("promise 28: all 0, shorter", x, 0, 0, 0);
        due("promise 28: anew, longer", x.sheet(0, 1, 4), 4);
        rowIs("promise 28: all 0, longer", x, 0, 0, 0, 0, 0);
        due("promise 28: of another sort", x.sheet(0, 0, 3), 3);
        due("promise 28: is of that sort", x.mark(0, 0, NONE), KIND);
        x.sheet(1, 0, 24);
        rowIs("promise 28: 24 places", x, 1, new int[24]);
        x.sheet(2, 0, 0);
        rowIs("promise 28: no places", x, 2);
    }

    private static void p28Missing() {
        for (int n : new int[] {0, 1, 24, 25, -1, MIN, MAX}) {
            LastLight x = allSheets();
            due("promise 28: MISSING, n " + n, x.sheet(3, -1, n), 0);
            Edges.same("promise 28: MISSING, n " + n, x, Edges.laden());
            Edges.onlyTold("promise 28: MISSING again, n " + n, Edges::laden, y -> y.sheet(3, -1, n), 0);
        }
        LastLight x = allSheets();
        x.sheet(3, -1, 3);
        due("promise 28: then mark", x.mark(3, 0, 1), NOTHING);
        due("promise 28: then pour", x.pour(3), NOTHING);
        due("promise 28: then reads", x.reads(3), NOTHING);
        due("promise 28: then copy from", x.copy(3, 0, 0, 0, 0), NOTHING);
        due("promise 28: then copy to", x.copy(0, 0, 3, 0, 0), NOTHING);
        due("promise 28: then lay", x.lay(0, 2, 3), NOTHING);
        due("promise 28: then wished", x.wished(3, 0, 0), NOTHING);
        x.sheet(3, 0, 3);
        rowIs("promise 28: there again, all 0", x, 3, 0, 0, 0);
    }

    private static void p29Bounds() {
        Edges.within("promise 29: mark sheet", EdgesOfSheetsTest::longSheets, (x, v) -> x.mark(v, 0, 1), 0, 3, BAD);
        Edges.within("promise 29: place of three shorts", Edges::laden, (x, v) -> x.mark(0, v, 1), 0, 2, INDEX);
        Edges.within("promise 29: place of four floats", Edges::laden, (x, v) -> x.mark(1, v, 1), 0, 3, INDEX);
        Edges.within("promise 29: place of 24", EdgesOfSheetsTest::longSheets, (x, v) -> x.mark(3, v, 1), 0, 23, INDEX);
        for (int place : new int[] {0, -1, MIN, MAX}) {
            Edges.refused("promise 29: no places, " + place, Edges::laden, x -> x.mark(2, place, 1), INDEX);
            Edges.refused("promise 29: MISSING, place " + place, Edges::laden, x -> x.mark(3, place, 1), NOTHING);
        }
    }

    private static LastLight longSheets() {
        LastLight x = Edges.laden();
        x.sheet(2, 1, 24);
        x.sheet(3, 0, 24);
        return x;
    }

    private static void p29Shorts() {
        int[][] shorts = {{32767, 32767}, {32768, -32768}, {-32768, -32768}, {-32769, 32767}, {65535, -1}, {65536, 0}, {65537, 1}, {-1, -1}, {MIN, 0}, {MAX, -1}, {99999, 99999 - 131072}, {100000, 100000 - 131072}, {NONE + 1, (short) (NONE + 1)}, {NONE - 1, (short) (NONE - 1)}, {BAD, (short) BAD}};
        LastLight x = row(0, 0, 0);
        for (int[] s : shorts) {
            due("promise 29: of shorts " + s[0], x.mark(0, 1, s[0]), 1);
            due("promise 29: its lowest 16 bits, " + s[0], at(x, 0, 1), s[1]);
        }
        due("promise 29: the place beside it", at(x, 0, 0), 0);
        Edges.refused("promise 29: NONE in a row of shorts", Edges::laden, y -> y.mark(0, 0, NONE), KIND);
    }

    private static void p29Floats() {
        LastLight x = row(1, 0, 0);
        for (int v : new int[] {99999, -99999, 99998, 65536, 32768, 0, -1}) {
            due("promise 29: of floats " + v, x.mark(0, 1, v), 1);
            due("promise 29: just " + v, at(x, 0, 1), v);
        }
        due("promise 29: NO NUMBER", x.mark(0, 1, NONE), 1);
        due("promise 29: is NO NUMBER", at(x, 0, 1), KIND);
        due("promise 29: a number again", x.mark(0, 1, 0), 1);
        due("promise 29: is a number", at(x, 0, 1), 0);
        for (int v : new int[] {100000, -100000, MIN, MAX, NONE + 1, NONE - 1, BAD, NO}) {
            Edges.refused("promise 29: of floats " + v, Edges::laden, y -> y.mark(1, 1, v), BAD);
        }
    }

    private static void p29Order() {
        Edges.refused("promise 29: BAD sheet ahead of all", Edges::laden, x -> x.mark(4, -1, NONE), BAD);
        Edges.refused("promise 29: NOTHING ahead of INDEX", Edges::laden, x -> x.mark(3, -1, NONE), NOTHING);
        Edges.refused("promise 29: INDEX ahead of KIND", Edges::laden, x -> x.mark(0, 3, NONE), INDEX);
        Edges.refused("promise 29: INDEX ahead of BAD v", Edges::laden, x -> x.mark(1, 4, 100000), INDEX);
        Edges.refused("promise 29: NOTHING ahead of BAD v", Edges::laden, x -> x.mark(3, 0, MAX), NOTHING);
    }

    private static void p30Bounds() {
        Edges.within("promise 30: pour sheet", EdgesOfSheetsTest::allSheets, (x, v) -> x.pour(v), 0, 3, BAD);
        Edges.refused("promise 30: MISSING", Edges::laden, x -> x.pour(3), NOTHING);
        Edges.onlyTold("promise 30: a sheet without places", Edges::laden, x -> x.pour(2), 0);
    }

    private static void p30Held() {
        int[][] held = {{-1, 0}, {0, 0}, {1, 1}, {598, 598}, {599, 599}, {600, 599}, {32767, 599}, {-32768, 0}};
        for (int[] h : held) {
            for (int sort = 0; sort < 2; sort++) {
                LastLight x = row(sort, h[0]);
                x.lodger(0, 0, 300);
                due("promise 30: " + h[0] + ", one is otherwise", x.pour(0), 1);
                due("promise 30: held within 0 .. 599, " + h[0], x.told(0, 2), h[1]);
                due("promise 30: " + h[0] + " again, none is", x.pour(0), 0);
                due("promise 30: the sheet stays", at(x, 0, 0), h[0]);
            }
        }
        LastLight far = row(1, 99999, -99999);
        far.lodger(0, 0, 599);
        far.lodger(0, 0, 0);
        due("promise 30: not otherwise, when held", far.pour(0), 0);
        far.set(0, 2, 598);
        due("promise 30: otherwise by one", far.pour(0), 1);
    }

    private static void p30WhatStays() {
        LastLight x = row(1, 1, NONE, 3);
        for (int i = 0; i < 10; i++) {
            x.lodger(0, 0, 100 + i);
        }
        due("promise 30: two are otherwise", x.pour(0), 2);
        int[] wishes = {1, 101, 3, 103, 104, 105, 106, 107, 108, 109};
        for (int i = 0; i < 10; i++) {
            due("promise 30: wish of " + i, x.told(i, 2), wishes[i]);
        }
        x.sheet(1, 0, 24);
        for (int i = 0; i < 24; i++) {
            x.mark(1, i, 200 + i);
        }
        due("promise 30: more places than lodgers", x.pour(1), 10);
        due("promise 30: the tenth", x.told(9, 2), 209);
        due("promise 30: no more lodgers", x.count(0), 10);
        x.sheet(2, 1, 10);
        for (int i = 0; i < 10; i++) {
            x.mark(2, i, NONE);
        }
        due("promise 30: no numbers, all stay", x.pour(2), 0);
        due("promise 30: no numbers, the first stays", x.told(0, 2), 200);
        due("promise 30: nothing but WISH, fear", x.told(0, 4), 0);
        due("promise 30: no lodgers", row(0, 5).pour(0), 0);
    }

    private static void p31Bounds() {
        Edges.within("promise 31: reads sheet", EdgesOfSheetsTest::allSheets, (x, v) -> x.reads(v), 0, 3, BAD);
        Edges.refused("promise 31: MISSING", Edges::laden, x -> x.reads(3), NOTHING);
        Edges.onlyTold("promise 31: a sheet without places", Edges::laden, x -> x.reads(2), NONE);
    }

    private static void p31Numbers() {
        LastLight x = Edges.with("burn w", 0, 300, 599);
        x.sheet(0, 1, 3);
        due("promise 31: OUT is 0 at first", x.reads(0), NONE);
        x.nights(1);
        due("promise 31: the first that is not", x.reads(0), 1);
        mark(x, 0, 0, 300, 599);
        due("promise 31: there is none", x.reads(0), NONE);
        int[][] off = {{0, -1}, {0, 1}, {1, 299}, {1, 301}, {2, 598}, {2, 600}, {2, 99999}};
        for (int[] o : off) {
            mark(x, 0, 0, 300, 599);
            x.mark(0, o[0], o[1]);
            due("promise 31: place " + o[0] + " is " + o[1], x.reads(0), o[0]);
            x.mark(0, o[0], NONE);
            due("promise 31: of numbers alone, place " + o[0], x.reads(0), NONE);
        }
        mark(x, 0, 1, 1, 1);
        due("promise 31: the first of three", x.reads(0), 0);
        mark(x, 0, NONE, NONE, NONE);
        due("promise 31: no numbers", x.reads(0), NONE);
        x.sheet(1, 0, 2);
        mark(x, 1, 0, 300);
        due("promise 31: fewer places than lodgers", x.reads(1), NONE);
    }

    private static void p31NoLodger() {
        LastLight x = row(1, 0, 0, 0);
        due("promise 31: no lodgers, all numbers are not", x.reads(0), 0);
        x.mark(0, 0, NONE);
        due("promise 31: no lodgers, of numbers alone", x.reads(0), 1);
        x.mark(0, 1, NONE);
        x.mark(0, 2, NONE);
        due("promise 31: no lodgers, no numbers", x.reads(0), NONE);
        LastLight ten = Edges.with("burn w", 0, 0, 0, 0, 0, 0, 0, 0, 0, 0);
        ten.sheet(0, 0, 24);
        due("promise 31: the place behind ten lodgers", ten.reads(0), 10);
        ten.sheet(0, 0, 10);
        due("promise 31: as many places as lodgers", ten.reads(0), NONE);
        ten.sheet(0, 0, 11);
        due("promise 31: one more", ten.reads(0), 10);
        ten.sheet(1, 1, 24);
        for (int i = 0; i < 23; i++) {
            ten.mark(1, i, NONE);
        }
        due("promise 31: the last place", ten.reads(1), 23);
    }

    private static void p32Bounds() {
        Edges.within("promise 32: copy from sheet", EdgesOfSheetsTest::fourShorts, (x, v) -> x.copy(v, 0, 0, 0, 1), 0, 3, BAD);
        Edges.within("promise 32: copy to sheet", EdgesOfSheetsTest::fourShorts, (x, v) -> x.copy(0, 0, v, 0, 1), 0, 3, BAD);
        Edges.within("promise 32: one place from", EdgesOfSheetsTest::fourShorts, (x, v) -> x.copy(0, v, 1, 0, 1), 0, 2, INDEX);
        Edges.within("promise 32: one place to", EdgesOfSheetsTest::fourShorts, (x, v) -> x.copy(0, 0, 1, v, 1), 0, 3, INDEX);
        Edges.within("promise 32: no place from", EdgesOfSheetsTest::fourShorts, (x, v) -> x.copy(0, v, 1, 0, 0), 0, 3, INDEX);
        Edges.within("promise 32: no place to", EdgesOfSheetsTest::fourShorts, (x, v) -> x.copy(0, 0, 1, v, 0), 0, 4, INDEX);
        Edges.within("promise 32: so many, by the first", EdgesOfSheetsTest::fourShorts, (x, v) -> x.copy(0, 0, 1, 0, v), 0, 3, INDEX);
        Edges.within("promise 32: so many, by the second", EdgesOfSheetsTest::fourShorts, (x, v) -> x.copy(1, 0, 0, 1, v), 0, 2, INDEX);
        Edges.within("promise 32: so many of 24", EdgesOfSheetsTest::fourShorts, (x, v) -> x.copy(2, 0, 2, 0, v), 0, 24, INDEX);
        Edges.within("promise 32: so many, from the last on", EdgesOfSheetsTest::fourShorts, (x, v) -> x.copy(2, 23, 2, 0, v), 0, 1, INDEX);
        Edges.within("promise 32: so many of one", EdgesOfSheetsTest::fourShorts, (x, v) -> x.copy(3, 0, 3, 0, v), 0, 1, INDEX);
    }

    /** Shorts: sheet 0 of three places, 1 of four, 2 of 24, 3 of one. */
    private static LastLight fourShorts() {
        LastLight x = row(0, 1, 2, 3);
        x.sheet(1, 0, 4);
        mark(x, 1, 5, 6, 7, 8);
        x.sheet(2, 0, 24);
        x.sheet(3, 0, 1);
        return x;
    }

    private static void p32Places() {
        LastLight x = fourShorts();
        x.sheet(3, 0, 0);
        due("promise 32: no place of none", x.copy(3, 0, 3, 0, 0), 0);
        due("promise 32: a place of none", x.copy(3, 0, 1, 0, 1), INDEX);
        due("promise 32: a place to none", x.copy(1, 0, 3, 0, 1), INDEX);
        due("promise 32: behind none", x.copy(3, 1, 1, 0, 0), INDEX);
        due("promise 32: none is more", x.copy(0, 3, 1, 4, 0), 0);
        rowIs("promise 32: none is more", x, 1, 5, 6, 7, 8);
        due("promise 32: all of it to the end", x.copy(0, 0, 1, 1, 3), 3);
        rowIs("promise 32: all of it to the end", x, 1, 5, 1, 2, 3);
        due("promise 32: the last to the first", x.copy(0, 2, 1, 0, 1), 1);
        rowIs("promise 32: the last to the first", x, 1, 3, 1, 2, 3);
        rowIs("promise 32: where they come from", x, 0, 1, 2, 3);
        int[][] far = {{MAX, 0, 1}, {0, MAX, 1}, {0, 0, MAX}, {1, 1, MAX}, {MAX, MAX, MAX}, {MIN, 0, 1}, {0, MIN, 1}, {0, 0, MIN}, {MIN, MIN, MIN}, {1, 0, MIN}, {-1, 0, 0}, {0, -1, 0}, {-1, 0, 2}, {0, -1, 2}, {2, 0, -1}};
        for (int[] f : far) {
            Edges.refused("promise 32: from " + f[0] + " to " + f[1] + ", " + f[2], EdgesOfSheetsTest::fourShorts, y -> y.copy(0, f[0], 1, f[1], f[2]), INDEX);
        }
    }

    /** Within one sheet too: no place is copied that has been copied to ahead of it. */
    private static void p32AsTheyWere() {
        LastLight x = row(0, 1, 2, 3, 4, 5);
        due("promise 32: up by one", x.copy(0, 0, 0, 1, 4), 4);
        rowIs("promise 32: up by one", x, 0, 1, 1, 2, 3, 4);
        LastLight y = row(0, 1, 2, 3, 4, 5);
        due("promise 32: down by one", y.copy(0, 1, 0, 0, 4), 4);
        rowIs("promise 32: down by one", y, 0, 2, 3, 4, 5, 5);
        LastLight z = row(1, NONE, 99999, -99999);
        due("promise 32: NO NUMBER too", z.copy(0, 0, 0, 1, 2), 2);
        rowIs("promise 32: NO NUMBER too", z, 0, KIND, KIND, 99999);
        due("promise 32: all to where they are", z.copy(0, 0, 0, 0, 3), 3);
        rowIs("promise 32: all to where they are", z, 0, KIND, KIND, 99999);
    }

    private static void p32Order() {
        Edges.refused("promise 32: BAD ahead of NOTHING", Edges::laden, x -> x.copy(3, 0, 4, 0, 1), BAD);
        Edges.refused("promise 32: BAD ahead of NOTHING, from", Edges::laden, x -> x.copy(-1, 0, 3, 0, 1), BAD);
        Edges.refused("promise 32: NOTHING ahead of INDEX, from", Edges::laden, x -> x.copy(3, -1, 0, 0, 1), NOTHING);
        Edges.refused("promise 32: NOTHING ahead of INDEX, to", Edges::laden, x -> x.copy(0, -1, 3, 0, 1), NOTHING);
        Edges.refused("promise 32: both are MISSING", Edges::laden, x -> x.copy(3, 0, 3, 0, 0), NOTHING);
        Edges.refused("promise 32: not of one sort", Edges::laden, x -> x.copy(0, 0, 1, 0, 1), KIND);
        Edges.refused("promise 32: not of one sort, the other way", Edges::laden, x -> x.copy(1, 1, 0, 0, 1), KIND);
        Edges.refused("promise 32: KIND though none is copied", Edges::laden, x -> x.copy(0, 0, 1, 0, 0), KIND);
        Edges.refused("promise 32: KIND ahead of INDEX", Edges::laden, x -> x.copy(0, -1, 1, 99, -5), KIND);
    }

    private static void p33Bounds() {
        Edges.within("promise 33: slot", Edges::laden, (x, v) -> x.lay(v, 3, 1), 0, 4, BAD);
        Edges.within("promise 33: thing", Edges::laden, (x, v) -> x.lay(0, v, 0), 0, 3, BAD);
        Edges.within("promise 33: LODGER k", Edges::laden, (x, v) -> x.lay(0, 1, v), 0, 4, BAD);
        Edges.within("promise 33: SHEET k", EdgesOfSheetsTest::allSheets, (x, v) -> x.lay(0, 2, v), 0, 3, BAD);
        Edges.refused("promise 33: that SHEET is MISSING", Edges::laden, x -> x.lay(3, 2, 3), NOTHING);
        Edges.refused("promise 33: BAD slot ahead of NOTHING", Edges::laden, x -> x.lay(5, 2, 3), BAD);
        for (int k : new int[] {MIN, -1, 0, 5, MAX, NONE}) {
            Edges.onlyTold("promise 33: nothing, k " + k, Edges::laden, x -> x.lay(0, 0, k), 0);
            LastLight x = new LastLight();
            due("promise 33: the number " + k, x.lay(0, 3, k), 0);
            due("promise 33: is the number " + k, x.rest(0, MAX), k % MAX);
            due("promise 33: is the number " + k + ", by the least", x.rest(0, MIN), k % MIN);
        }
    }

    private static void p33WhatItHeld() {
        for (int was = 0; was < 4; was++) {
            for (int thing = 0; thing < 4; thing++) {
                LastLight x = Edges.laden();
                x.lay(0, was, 0);
                due("promise 33: what it held, " + was + " ahead of " + thing, x.lay(0, thing, 1), was);
                due("promise 33: what it holds, " + thing + " behind " + was, x.lay(0, 0, 0), thing);
                due("promise 33: nothing now", x.ask(0, 0), NOTHING);
            }
        }
        LastLight x = Edges.laden();
        due("promise 33: refused", x.lay(3, 1, 5), BAD);
        due("promise 33: holds what it held", x.rest(3, 7), -1000 % 7);
    }

    private static void p33ForGood() {
        LastLight x = Edges.laden();
        int worth = x.ask(1, 3);
        x.set(2, 2, 599);
        x.turns(2, 5);
        due("promise 33: a LODGER as it is then", x.ask(1, 3), worth);
        x.back();
        due("promise 33: by an image too", x.ask(1, 3), worth);
        x.mark(1, 2, 5);
        due("promise 33: a SHEET as it was then", x.item(2, 2), 250);
        x.sheet(1, -1, 0);
        due("promise 33: when it is MISSING too", x.item(2, 2), 250);
        LastLight y = new LastLight();
        y.lodger(0, 0, 100);
        y.keep();
        y.lodger(0, 0, 200);
        y.lay(0, 1, 1);
        y.back();
        due("promise 33: when there is no such LODGER any more", y.ask(0, 0), 20);
    }

    private static void p34Bounds() {
        Edges.within("promise 34: ask slot", EdgesOfSheetsTest::lodgersInSlots, (x, v) -> x.ask(v, 0), 0, 4, BAD);
        for (int kind : new int[] {-1, 6, MIN, MAX}) {
            Edges.refused("promise 34: ask kind " + kind, Edges::laden, x -> x.ask(1, kind), BAD);
            Edges.refused("promise 34: BAD kind ahead of NOTHING, " + kind, Edges::laden, x -> x.ask(0, kind), BAD);
            Edges.refused("promise 34: BAD kind ahead of KIND, " + kind, Edges::laden, x -> x.ask(3, kind), BAD);
        }
        Edges.refused("promise 34: holds nothing", Edges::laden, x -> x.ask(0, 5), NOTHING);
        Edges.refused("promise 34: a SHEET", Edges::laden, x -> x.ask(2, 0), KIND);
        Edges.refused("promise 34: a number", Edges::laden, x -> x.ask(3, 0), KIND);
        Edges.refused("promise 34: not of that KIND", Edges::laden, x -> x.ask(1, 2), KIND);
    }

    private static LastLight lodgersInSlots() {
        LastLight x = Edges.laden();
        for (int slot = 0; slot < 5; slot++) {
            x.lay(slot, 1, slot);
        }
        return x;
    }

    private static void p34Kinds() {
        String[] is = {"100000", "110000", "101000", "110100", "101010", "100001"};
        int[] worths = {34, 39, 65, 78, 56, 1};
        for (int one = 0; one < 6; one++) {
            LastLight x = new LastLight();
            x.lodger(one, 0, 345);
            x.lay(0, 1, 0);
            for (int kind = 0; kind < 6; kind++) {
                due("promise 34: kind " + one + " taken for " + kind, x.ask(0, kind), is[one].charAt(kind) == '1' ? worths[one] : KIND);
            }
        }
    }

    private static void p35Bounds() {
        Edges.within("promise 35: item slot", EdgesOfSheetsTest::sheetsInSlots, (x, v) -> x.item(v, 0), 0, 4, BAD);
        Edges.refused("promise 35: holds nothing", Edges::laden, x -> x.item(0, 0), NOTHING);
        Edges.refused("promise 35: a LODGER", Edges::laden, x -> x.item(1, 0), KIND);
        Edges.refused("promise 35: a number", Edges::laden, x -> x.item(3, 0), KIND);
        Edges.refused("promise 35: NO NUMBER", Edges::laden, x -> x.item(2, 0), KIND);
        Edges.refused("promise 35: BAD slot ahead of INDEX", Edges::laden, x -> x.item(5, -1), BAD);
        Edges.refused("promise 35: NOTHING ahead of INDEX", Edges::laden, x -> x.item(0, -1), NOTHING);
        Edges.refused("promise 35: KIND ahead of INDEX", Edges::laden, x -> x.item(1, -1), KIND);
    }

    private static LastLight sheetsInSlots() {
        LastLight x = Edges.laden();
        for (int slot = 0; slot < 5; slot++) {
            x.lay(slot, 2, 0);
        }
        return x;
    }

    private static void p35Places() {
        Edges.within("promise 35: place of three", EdgesOfSheetsTest::sheetsInSlots, (x, v) -> x.item(4, v), 0, 2, INDEX);
        LastLight none = Edges.laden();
        due("promise 35: no places", none.item(4, 0), INDEX);
        LastLight x = new LastLight();
        x.sheet(3, 1, 24);
        x.mark(3, 23, -99999);
        x.lay(4, 2, 3);
        due("promise 35: the last of 24", x.item(4, 23), -99999);
        due("promise 35: behind the last of 24", x.item(4, 24), INDEX);
        x.sheet(3, 1, 2);
        x.lay(4, 2, 3);
        due("promise 35: a shorter row in its stead", x.item(4, 2), INDEX);
    }

    private static void p36Bounds() {
        Edges.within("promise 36: rest slot", EdgesOfSheetsTest::numbersInSlots, (x, v) -> x.rest(v, 3), 0, 4, BAD);
        Edges.refused("promise 36: holds nothing", Edges::laden, x -> x.rest(0, 1), NOTHING);
        Edges.refused("promise 36: a LODGER", Edges::laden, x -> x.rest(1, 1), KIND);
        Edges.refused("promise 36: a SHEET", Edges::laden, x -> x.rest(2, 1), KIND);
        Edges.refused("promise 36: n is 0", Edges::laden, x -> x.rest(3, 0), NO);
        Edges.refused("promise 36: BAD slot ahead of NO", Edges::laden, x -> x.rest(5, 0), BAD);
        Edges.refused("promise 36: NOTHING ahead of NO", Edges::laden, x -> x.rest(0, 0), NOTHING);
        Edges.refused("promise 36: KIND ahead of NO", Edges::laden, x -> x.rest(1, 0), KIND);
    }

    private static LastLight numbersInSlots() {
        LastLight x = Edges.laden();
        for (int slot = 0; slot < 5; slot++) {
            x.lay(slot, 3, 10 * slot);
        }
        return x;
    }

    private static void p36Rests() {
        int[][] rests = {{0, 5, 0}, {4, 5, 4}, {5, 5, 0}, {6, 5, 1}, {-4, 5, -4}, {-6, 5, -1}, {6, -5, 1}, {-6, -5, -1}, {7, 1, 0}, {7, -1, 0}, {MIN, -1, 0}, {MIN, 1, 0}, {MIN, MAX, -1}, {MAX, MIN, MAX}, {MIN, MIN, 0}, {MAX, MAX, 0}, {-1, MIN, -1}};
        for (int[] r : rests) {
            LastLight x = new LastLight();
            x.lay(0, 3, r[0]);
            due("promise 36: the rest of " + r[0] + " by " + r[1], x.rest(0, r[1]), r[2]);
        }
    }
}
