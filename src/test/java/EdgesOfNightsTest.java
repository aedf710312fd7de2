/** Boundary cases of promises 11 to 13 and of the terms on A NIGHT, each sentence by itself. */
public final class EdgesOfNightsTest {
    private static final int BAD = LastLight.BAD, NONE = LastLight.NONE;

    public static void main(String[] args) {
        p11Bounds();
        p11LastNight();
        p11DrawsOfLodgers();
        p11Cost();
        p11LawOfTheLast();
        p11LawOfAll();
        p11LawOfTheSecond();
        p11LawByLot();
        p11NobodyOnAStair();
        p11Chink();
        p11FearHeld();
        p11WhoPaidNothing();
        p12Bounds();
        p12FullHouse();
        p12Sets();
        p13Longest();
        Due.end();
    }

    private static void due(String call, long got, long want) { Due.due(call, got, want); }

    private static LastLight with(int... wishes) { return Edges.with("burn w", wishes); }

    private static int drawn(int z, int times) {
        int drawn = z;
        for (int i = 0; i < times; i++) {
            drawn = drawn * 1103515245 + 12345;
        }
        return drawn;
    }

    private static void told(LastLight x, String name, int what, int... wants) {
        for (int i = 0; i < wants.length; i++) {
            due("promise 11: " + name + " of " + i, x.told(i, what), wants[i]);
        }
    }

    private static void p11Bounds() {
        Edges.within("promise 11: nights", Edges::laden, (x, v) -> x.nights(v), 1, 100, BAD);
        LastLight x = with(100);
        due("promise 11: one night", x.nights(1), 10);
        due("promise 11: a hundred nights", x.nights(100), 1000);
        due("promise 11: the night", x.count(1), 101);
    }

    private static void p11LastNight() {
        LastLight x = Edges.atNight(9899);
        due("promise 11: a hundred up to 9999", x.nights(100), 1000);
        due("promise 11: THE NIGHT is 9999", x.count(1), 9999);
        LastLight y = Edges.atNight(9900);
        due("promise 11: ninety-nine of a hundred", y.nights(100), 990);
        due("promise 11: 9999 at most", y.count(1), 9999);
        LastLight z = Edges.atNight(9998);
        due("promise 11: one of two", z.nights(2), 10);
        due("promise 11: 9999 again", z.count(1), 9999);
        Edges.onlyTold("promise 11: no night at 9999", () -> Edges.atNight(9999), h -> h.nights(100), 0);
        Edges.refused("promise 11: nights 101 at 9999", () -> Edges.atNight(9999), h -> h.nights(101), BAD);
        Edges.refused("promise 11: nights 0 at 9999", () -> Edges.atNight(9999), h -> h.nights(0), BAD);
    }

    /** One draw for each, by numbers, whatever its kind and stair; the rest by 60. */
    private static void p11DrawsOfLodgers() {
        LastLight x = new LastLight();
        x.seed(-1);
        x.lodger(0, 2, 100);
        x.lodger(5, 0, 100);
        x.lodger(0, 1, 100);
        x.lodger(0, 0, 100);
        x.nights(1);
        for (int i = 0; i < 4; i++) {
            due("promise 11: a draw for " + i, x.told(i, 5), i == 1 ? 0 : 100 + (drawn(-1, i + 1) >>> 8) % 60);
        }
        due("promise 11: no more draws than lodgers", x.count(7), drawn(-1, 4));
    }

    private static int costOf(int price, int... wishes) {
        LastLight x = with(wishes);
        x.rule(1, price);
        return x.nights(1);
    }

    private static void p11Cost() {
        due("promise 11: PRICE 0 costs nothing", costOf(0, 599, 599), 0);
        due("promise 11: 99 of 100 is cut", costOf(1, 99), 0);
        due("promise 11: 100 of 100", costOf(1, 100), 1);
        due("promise 11: 199 of 100 is cut", costOf(1, 199), 1);
        due("promise 11: together, then cut", costOf(1, 50, 49), 0);
        due("promise 11: together, then cut, 100", costOf(1, 50, 50), 1);
        due("promise 11: the most", costOf(99, 599, 599, 599, 599, 599, 599, 599, 599, 599, 599), 5930);
        LastLight x = with(199, 199);
        x.set(1, 1, 1);
        due("promise 11: each stair is cut by itself", x.nights(1), 38);
    }

    private static void p11LawOfTheLast() {
        LastLight x = with(300, 300, 300);
        x.nights(1);
        told(x, "of several the greatest number, purse", 6, 0, 0, -90);
        x.set(0, 3, 1);
        x.nights(1);
        told(x, "by the TOLD minute, purse", 6, -90, 0, -90);
        x.set(0, 3, -60);
        x.set(1, 3, -60);
        x.set(2, 3, -60);
        x.nights(1);
        told(x, "all clocks slow, purse", 6, -90, 0, -180);
        LastLight y = with(0, 5);
        y.set(0, 3, -54);
        y.set(1, 3, -60);
        y.rule(1, 99);
        due("promise 11: TOLD minutes below 0, cost", y.nights(1), 4);
        told(y, "TOLD minutes below 0, purse", 6, -4, 0);
        LastLight z = with(599, 539);
        z.set(1, 3, 60);
        z.nights(1);
        told(z, "a TOLD minute of 599 by a clock, a tie", 6, 0, -113);
        z.set(0, 3, 1);
        z.nights(1);
        told(z, "a TOLD minute of 600", 6, -113, -113);
        LastLight w = with(598, 540);
        w.set(0, 3, 1);
        w.set(1, 3, 60);
        w.nights(1);
        told(w, "a TOLD minute is not held within 599", 6, 0, -113);
    }

    private static void p11LawOfAll() {
        LastLight x = with(100, 100, 100);
        x.rule(0, 1);
        x.nights(1);
        told(x, "nothing is left over, purse", 6, -10, -10, -10);
        x.set(0, 2, 110);
        x.nights(1);
        told(x, "one is left over, for the last", 6, -21, -20, -20);
        x.set(1, 2, 110);
        x.set(0, 3, -60);
        x.nights(1);
        told(x, "two are left over, for the last by its clock", 6, -31, -32, -30);
        LastLight y = with(5, 5);
        y.rule(0, 1);
        y.set(0, 4, 100);
        y.set(1, 4, 100);
        due("promise 11: COST 1 for two", y.nights(1), 1);
        told(y, "whoever has no part", 6, 0, -1);
        told(y, "all paid, whatever their part, fear", 4, 120, 120);
        y.set(0, 2, 4);
        due("promise 11: COST 0", y.nights(1), 0);
        told(y, "COST 0: none paid, fear", 4, 116, 116);
        LastLight z = with(400);
        z.rule(0, 1);
        z.nights(1);
        told(z, "alone by the law of all", 6, -40);
    }

    private static void p11LawOfTheSecond() {
        LastLight x = with(300, 300, 300);
        x.rule(0, 2);
        x.nights(1);
        told(x, "of several the greater number ahead", 6, 0, -90, 0);
        x.set(2, 3, -1);
        x.nights(1);
        told(x, "the second by TOLD minute", 6, -90, -90, 0);
        LastLight y = with(300);
        y.rule(0, 2);
        y.nights(1);
        told(y, "the only one, if it is alone", 6, -30);
        y.lodger(0, 1, 400);
        y.nights(1);
        told(y, "alone on its stair", 6, -60, -40);
        LastLight z = with(100, 0);
        z.rule(0, 2);
        z.nights(1);
        told(z, "the second of two, though it burned not at all", 6, 0, -10);
        z.set(1, 3, -60);
        z.nights(1);
        told(z, "the second of two, TOLD minute below 0", 6, 0, -20);
        z.set(0, 3, -60);
        z.set(0, 2, 10);
        z.set(1, 2, 9);
        z.set(1, 3, -59);
        z.rule(1, 99);
        due("promise 11: a tie below 0, cost", z.nights(1), 18);
        told(z, "a tie below 0: the greater number is ahead", 6, -18, -20);
    }

    private static void p11LawByLot() {
        for (int many = 1; many <= 10; many++) {
            LastLight x = new LastLight();
            Due.textOf(x, "burn w");
            for (int i = 0; i < many; i++) {
                x.lodger(0, 1, 100);
            }
            x.rule(0, 3);
            x.seed(-many);
            x.nights(1);
            int z = drawn(-many, many + 1);
            for (int i = 0; i < many; i++) {
                due("promise 11: by lot, the rest by " + many + ", purse of " + i, x.told(i, 6), i == (z >>> 8) % many ? -10 * many : 0);
            }
            due("promise 11: one draw for the stair, " + many + " on it", x.count(7), z);
        }
    }

    private static void p11NobodyOnAStair() {
        for (int bits = 0; bits < 8; bits++) {
            LastLight x = new LastLight();
            Due.textOf(x, "burn w");
            for (int stair = 0; stair < 3; stair++) {
                if ((bits >> stair & 1) == 1) {
                    x.lodger(0, stair, 100);
                }
            }
            x.rule(0, 3);
            int many = Integer.bitCount(bits);
            due("promise 11: stairs " + bits + ", paid", x.nights(1), 10 * many);
            due("promise 11: stairs " + bits + ", no draw for one with nobody on it", x.count(7), drawn(1, 2 * many));
        }
    }

    private static void p11Chink() {
        LastLight x = with(100);
        x.nights(1);
        told(x, "chink: not itself", 8, 0);
        LastLight y = with(100, 100);
        y.nights(1);
        told(y, "chink: not above its own", 8, 0, 0);
        y.set(1, 2, 101);
        y.nights(1);
        told(y, "chink: one minute", 8, 1, 0);
        y.set(1, 2, 99);
        y.nights(1);
        told(y, "chink: round", 8, 1, 1);
        LastLight z = with(0, 300, 599);
        z.set(1, 1, 2);
        z.nights(1);
        told(z, "chink: the next one on its stair", 8, 599, 0, 0);
        LastLight w = with(0, 10, 599);
        w.set(2, 3, -60);
        w.nights(1);
        told(w, "chink: by OUT, by no clock, of the next one alone", 8, 10, 589, 0);
    }

    private static void fear(String name, int kind, int price, int from, int to) {
        LastLight x = with(300);
        x.turns(0, kind);
        x.rule(1, price);
        x.set(0, 4, from);
        x.nights(1);
        due("promise 11: fear of kind " + kind + " that " + name + ", from " + from, x.told(0, 4), to);
    }

    private static void p11FearHeld() {
        int[] paid = {20, 5, 20, 5, 0};
        for (int kind = 0; kind < 5; kind++) {
            fear("paid", kind, 10, 0, paid[kind]);
            fear("paid", kind, 10, 300 - paid[kind], 300);
            fear("paid", kind, 10, Math.min(300, 301 - paid[kind]), 300);
            fear("paid", kind, 10, 299 - paid[kind], 299);
            fear("paid", kind, 10, 300, 300);
        }
        int[] spared = {4, 4, 4, 1, 4, 4};
        for (int kind = 0; kind < 6; kind++) {
            fear("did not", kind, 0, 300, 300 - spared[kind]);
            fear("did not", kind, 0, spared[kind] + 1, 1);
            fear("did not", kind, 0, spared[kind], 0);
            fear("did not", kind, 0, spared[kind] - 1, 0);
            fear("did not", kind, 0, 0, 0);
        }
    }

    private static void p11WhoPaidNothing() {
        for (int law = 0; law < 4; law++) {
            LastLight x = with(9);
            x.rule(0, law);
            x.set(0, 4, 100);
            due("promise 11: COST 0 by law " + law, x.nights(1), 0);
            due("promise 11: who pays 0 did not pay, law " + law, x.told(0, 4), 96);
            x.set(0, 2, 10);
            due("promise 11: COST 1 by law " + law, x.nights(1), 1);
            due("promise 11: who pays 1 paid, law " + law, x.told(0, 4), 116);
        }
    }

    private static void p12Bounds() {
        Edges.within("promise 12: house", Edges::laden, (x, v) -> x.house(v), 0, 6, BAD);
        LastLight x = with(100, 300);
        x.nights(2);
        int[] all = {400, -80, 800, 400};
        for (int what = 0; what < 4; what++) {
            due("promise 12: all together, " + what, x.house(what), all[what]);
        }
    }

    private static void p12FullHouse() {
        LastLight x = with(100, 200, 300, 400, 500, 500, 400, 300, 200, 100);
        due("promise 11: paid by ten", x.nights(1), 300);
        int[] all = {3000, -300, 3000, 400};
        for (int what = 0; what < 4; what++) {
            due("promise 12: all of ten together, " + what, x.house(what), all[what]);
        }
        due("promise 13: of ten", x.longest(), 4);
    }

    private static void p12Sets() {
        LastLight x = with(1, 1, 1, 1, 1, 1, 1, 1, 1, 1);
        due("promise 12: all of ten on stair 0", x.house(4), 1023);
        due("promise 12: nobody on stair 1", x.house(5), 0);
        due("promise 12: nobody on stair 2", x.house(6), 0);
        x.set(9, 1, 2);
        x.set(0, 1, 1);
        due("promise 12: the others on stair 0", x.house(4), 1023 - 512 - 1);
        due("promise 12: the first on stair 1", x.house(5), 1);
        due("promise 12: the last on stair 2", x.house(6), 512);
    }

    private static void p13Longest() {
        due("promise 13: no lodgers", new LastLight().longest(), NONE);
        LastLight x = with(100, 300, 300);
        due("promise 13: of several the least, ahead of all nights", x.longest(), 0);
        x.nights(1);
        due("promise 13: of several the least", x.longest(), 1);
        x.set(2, 3, 60);
        x.set(1, 2, 299);
        due("promise 13: in the last night, not now", x.longest(), 1);
        x.set(0, 3, 60);
        x.set(0, 2, 298);
        x.nights(1);
        due("promise 13: truly, by no clock", x.longest(), 2);
        LastLight dark = with(0, 0);
        dark.nights(1);
        due("promise 13: nobody burned, the least", dark.longest(), 0);
    }
}
