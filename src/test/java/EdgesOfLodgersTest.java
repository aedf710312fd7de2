/** Boundary cases of promises 1 to 10 and of the terms on LODGERS, each sentence by itself. */
public final class EdgesOfLodgersTest {
    private static final int BAD = LastLight.BAD, NO = LastLight.NO, FULL = LastLight.FULL, NONE = LastLight.NONE;
    private static final int NOTHING = LastLight.NOTHING, KIND = LastLight.KIND;
    private static final int MIN = Integer.MIN_VALUE, MAX = Integer.MAX_VALUE;

    public static void main(String[] args) {
        p1Constants();
        p1AllAtFirst();
        p1NoLodgers();
        p1ObjectsShareNothing();
        p2Bounds();
        p2TenAtMost();
        p2OneMoreIsNewAllOver();
        p3Bounds();
        p3WorthAtTheEdges();
        p4Bounds();
        p4HeldWithout();
        p4HeldByText();
        p4KindsAtTheEdges();
        p5BoundsAndKinds();
        p6Bounds();
        p7Bounds();
        p8Bounds();
        p9Bounds();
        p9Room();
        p9DrawsWrap();
        p10AnyNumber();
        Due.end();
    }

    private static void due(String call, long got, long want) { Due.due(call, got, want); }

    private static LastLight ofKind(int kind, int wish) {
        LastLight x = new LastLight();
        x.lodger(kind, 0, wish);
        return x;
    }

    private static LastLight lodgers(int many) {
        LastLight x = new LastLight();
        for (int i = 0; i < many; i++) {
            x.lodger(i % 6, i % 3, 50 * i);
        }
        return x;
    }

    private static void p1Constants() {
        int[] due = {-1000000001, -1000000002, -1000000003, -1000000005, -1000000011, -1000000012, -1000000013, -1000000014};
        int[] got = {BAD, NO, FULL, NONE, NOTHING, KIND, LastLight.INDEX, LastLight.SIZE};
        for (int i = 0; i < due.length; i++) {
            due("promise 1: constant " + i, got[i], due[i]);
        }
    }

    private static void p1AllAtFirst() {
        LastLight x = new LastLight();
        int[] counts = {0, 0, 0, 10, 0, 0, 0, 1};
        for (int what = 0; what < counts.length; what++) {
            due("promise 1: at first, count " + what, x.count(what), counts[what]);
        }
        for (int sheet = 0; sheet < 4; sheet++) {
            due("promise 1: at first, sheet " + sheet + " is missing", x.mark(sheet, 0, 0), NOTHING);
        }
        for (int slot = 0; slot < 5; slot++) {
            due("promise 1: at first, slot " + slot + " holds nothing", x.lay(slot, 0, 0), 0);
        }
        for (int key = 0; key < 3; key++) {
            due("promise 1: at first, no text counts for key " + key, x.why(key), NONE);
        }
        due("promise 1: at first, the tape is empty", x.trim(1), BAD);
        due("promise 1: at first, fee is PRICE", x.fee(), 10);
        due("promise 1: at first, there is no image", x.back(), NO);
        due("promise 1: at first, there is none to check by", x.check(1), NO);
        due("promise 1: at first, there is no text", x.textTold(0, 0), BAD);
    }

    private static void p1NoLodgers() {
        for (int what = 0; what < 7; what++) {
            due("promise 1: no lodgers, house " + what, new LastLight().house(what), 0);
        }
        LastLight x = new LastLight();
        x.sheet(0, 0, 2);
        due("promise 1: no lodgers, told", x.told(0, 0), BAD);
        due("promise 1: no lodgers, burns", x.burns(0, 0), BAD);
        due("promise 1: no lodgers, as", x.as(0, 0), BAD);
        due("promise 1: no lodgers, turns", x.turns(0, 0), BAD);
        due("promise 1: no lodgers, set", x.set(0, 1, 0), BAD);
        due("promise 1: no lodgers, longest", x.longest(), NONE);
        due("promise 1: no lodgers, behind, read", x.behind(100, 0), 0);
        due("promise 1: no lodgers, behind, of one", x.behind(1, 3), BAD);
        due("promise 1: no lodgers, bestLaw", x.bestLaw(60, 0), 0);
        due("promise 1: no lodgers, bestLaw, read", x.bestLaw(60, 1), 0);
        due("promise 1: no lodgers, bedtime", x.bedtime(0, 1, 0), BAD);
        due("promise 1: no lodgers, wrong", x.wrong(0, 1, 0), BAD);
        due("promise 1: no lodgers, moved", x.moved(0, 1, 0), BAD);
        due("promise 1: no lodgers, dark", x.dark(), NONE);
        due("promise 1: no lodgers, wished", x.wished(0, 0, 0), BAD);
        due("promise 1: no lodgers, fine", x.fine(0), BAD);
        due("promise 1: no lodgers, lay", x.lay(0, 1, 0), BAD);
        due("promise 1: no lodgers, pour", x.pour(0), 0);
        due("promise 1: no lodgers, reads", x.reads(0), 0);
        due("promise 1: no lodgers, nights", x.nights(100), 0);
        due("promise 1: no lodgers, the night all the same", x.count(1), 100);
        due("promise 1: no lodgers, no draw", x.count(7), 1);
        x.rule(0, 3);
        x.nights(1);
        due("promise 1: no lodgers, no draw by lot", x.count(7), 1);
        due("promise 1: no lodgers, keep", x.keep(), 0);
        due("promise 1: no lodgers, back", x.back(), 0);
    }

    private static void p1ObjectsShareNothing() {
        LastLight x = Edges.laden();
        Edges.same("promise 1: a new object beside another", new LastLight(), new LastLight());
        due("promise 1: the other one is as it was", x.count(0), 5);
        LastLight y = new LastLight();
        due("promise 1: new, no lodgers", y.count(0), 0);
        due("promise 1: new, no texts", y.count(4), 0);
        due("promise 1: new, no sheet", y.reads(0), NOTHING);
        due("promise 1: new, no image", y.back(), NO);
    }

    private static void p2Bounds() {
        Edges.within("promise 2: lodger of kind", Edges::laden, (x, v) -> x.lodger(v, 0, 0), 0, 5, BAD);
        Edges.within("promise 2: lodger on stair", Edges::laden, (x, v) -> x.lodger(0, v, 0), 0, 2, BAD);
        Edges.within("promise 2: lodger with wish", Edges::laden, (x, v) -> x.lodger(0, 0, v), 0, 599, BAD);
        LastLight x = new LastLight();
        due("promise 2: the least of all", x.lodger(0, 0, 0), 0);
        due("promise 2: the most of all", x.lodger(5, 2, 599), 1);
        int[] facts = {0, 0, 0, 5, 2, 599};
        for (int i = 0; i < 6; i++) {
            due("promise 2: what it is, " + i, x.told(i / 3, i % 3), facts[i]);
        }
    }

    private static void p2TenAtMost() {
        LastLight x = new LastLight();
        for (int i = 0; i < 10; i++) {
            due("promise 2: lodgers are numbered from 0, " + i, x.lodger(0, 0, 599 - i), i);
        }
        Edges.refused("promise 2: the eleventh", () -> lodgers(10), h -> h.lodger(0, 0, 0), FULL);
        Edges.refused("promise 2: BAD stands ahead of FULL, kind", () -> lodgers(10), h -> h.lodger(6, 0, 0), BAD);
        Edges.refused("promise 2: BAD stands ahead of FULL, stair", () -> lodgers(10), h -> h.lodger(0, 3, 0), BAD);
        Edges.refused("promise 2: BAD stands ahead of FULL, wish", () -> lodgers(10), h -> h.lodger(0, 0, 600), BAD);
        due("promise 2: the tenth is there", x.told(9, 2), 590);
        due("promise 2: there is no eleventh", x.told(10, 2), BAD);
    }

    /** Also in a place that another one had ahead of going back. */
    private static void p2OneMoreIsNewAllOver() {
        LastLight x = Edges.with("burn w", 100);
        x.keep();
        x.lodger(0, 0, 300);
        x.set(1, 3, 60);
        x.set(1, 4, 300);
        x.nights(5);
        x.back();
        due("promise 2: the number again", x.lodger(2, 1, 7), 1);
        int[] facts = {2, 1, 7, 0, 0, 0, 0, 0, 0};
        for (int what = 0; what < facts.length; what++) {
            due("promise 2: 0 at first, told " + what, x.told(1, what), facts[what]);
        }
    }

    private static void p3Bounds() {
        Edges.within("promise 3: told of lodger", Edges::laden, (x, v) -> x.told(v, 0), 0, 4, BAD);
        Edges.within("promise 3: told what", Edges::laden, (x, v) -> x.told(0, v), 0, 9, BAD);
        Edges.within("promise 3: told of lodger of ten", () -> lodgers(10), (x, v) -> x.told(v, 9), 0, 9, BAD);
    }

    private static void p3WorthAtTheEdges() {
        int[][] worths = {{0, 0, 1, 59}, {5, 5, 6, 64}, {99, 99, 98, 40}, {10, 10, 12, 128}, {90, 90, 89, 31}, {1, 1, 1, 1}};
        int[] wishes = {0, 9, 10, 599};
        for (int kind = 0; kind < 6; kind++) {
            for (int i = 0; i < wishes.length; i++) {
                due("promise 3: worth of kind " + kind + " with wish " + wishes[i], ofKind(kind, wishes[i]).told(0, 9), worths[kind][i]);
            }
        }
    }

    private static void p4Bounds() {
        Edges.within("promise 4: burns of lodger", Edges::laden, (x, v) -> x.burns(v, 0), 0, 4, BAD);
        Edges.within("promise 4: burns by x", Edges::laden, (x, v) -> x.burns(0, v), 0, 59, BAD);
    }

    private static void p4HeldWithout() {
        LastLight x = ofKind(0, 540);
        due("promise 4: 599 just", x.burns(0, 59), 599);
        x.set(0, 2, 541);
        due("promise 4: 600 is held", x.burns(0, 59), 599);
        due("promise 4: x counts below it", x.burns(0, 57), 598);
        x.set(0, 2, 10);
        x.set(0, 4, 30);
        due("promise 4: 0 just", x.burns(0, 20), 0);
        due("promise 4: -1 is held", x.burns(0, 19), 0);
        due("promise 4: 1", x.burns(0, 21), 1);
        x.set(0, 2, 0);
        x.set(0, 4, 300);
        due("promise 4: -300 is held", x.burns(0, 0), 0);
    }

    private static void burnsBy(String text, int... wants) {
        LastLight x = lodgers(6);
        Due.textOf(x, text);
        for (int kind = 0; kind < 6; kind++) {
            due("promise 4: " + text + ", kind " + kind, x.burns(kind, 7), wants[kind]);
        }
    }

    /** What burn gives is held first, then the kinds do with it what they do. */
    private static void p4HeldByText() {
        burnsBy("burn 598", 598, 599, 299, 599, 329, 0);
        burnsBy("burn 599", 599, 599, 299, 599, 329, 0);
        burnsBy("burn 600", 599, 599, 299, 599, 329, 0);
        burnsBy("burn 9999", 599, 599, 299, 599, 329, 0);
        burnsBy("burn 1", 1, 61, 0, 61, 30, 0);
        burnsBy("burn 0", 0, 60, 0, 60, 30, 0);
        burnsBy("burn 0-1", 0, 60, 0, 60, 30, 0);
        burnsBy("burn 0-9999", 0, 60, 0, 60, 30, 0);
        burnsBy("burn 8192*8192*32", 0, 60, 0, 60, 30, 0);
        burnsBy("burn 8192*8192*32-1", 599, 599, 299, 599, 329, 0);
        LastLight x = ofKind(0, 1);
        Due.textOf(x, "burn 400");
        x.set(0, 4, 300);
        due("promise 4: a text stands for wish, fear and x", x.burns(0, 59), 400);
    }

    private static void p4KindsAtTheEdges() {
        LastLight student = ofKind(1, 538);
        due("promise 4: STUDENT, 598", student.burns(0, 0), 598);
        due("promise 4: STUDENT, 599 just", student.burns(0, 1), 599);
        due("promise 4: STUDENT, 599 at most", student.burns(0, 2), 599);
        LastLight sick = ofKind(3, 100);
        due("promise 4: SICK, x 49", sick.burns(0, 49), 209);
        due("promise 4: SICK, x 50 is not above 50", sick.burns(0, 50), 210);
        due("promise 4: SICK, x 51 is", sick.burns(0, 51), 599);
        due("promise 4: SICK, x 59 too", sick.burns(0, 59), 599);
        Due.textOf(sick, "burn 0");
        due("promise 4: SICK, by a text too", sick.burns(0, 51), 599);
        due("promise 4: SICK, as STUDENT by a text", sick.burns(0, 50), 60);
        sick.set(0, 2, 599);
        Due.textOf(sick, "burn w");
        due("promise 4: SICK, 599 at most", sick.burns(0, 0), 599);
        LastLight baker = ofKind(2, 2);
        due("promise 4: BAKER, half of 2", baker.burns(0, 0), 1);
        due("promise 4: BAKER, half of 3 is cut", baker.burns(0, 1), 1);
        baker.set(0, 4, 1);
        due("promise 4: BAKER, half of 1 is cut", baker.burns(0, 0), 0);
        LastLight informer = ofKind(4, 0);
        due("promise 4: INFORMER, the least", informer.burns(0, 0), 30);
        due("promise 4: INFORMER, half of 1 is cut", informer.burns(0, 1), 30);
        due("promise 4: INFORMER, half of 2", informer.burns(0, 2), 31);
        informer.set(0, 2, 599);
        due("promise 4: INFORMER, the most", informer.burns(0, 59), 329);
        LastLight blind = ofKind(5, 599);
        due("promise 4: BLIND, always 0", blind.burns(0, 59), 0);
    }

    private static void p5BoundsAndKinds() {
        Edges.within("promise 5: as of lodger", Edges::laden, (x, v) -> x.as(v, 0), 0, 4, BAD);
        LastLight x = lodgers(6);
        String[] is = {"100000", "110000", "101000", "110100", "101010", "100001"};
        for (int one = 0; one < 6; one++) {
            for (int kind = 0; kind < 6; kind++) {
                due("promise 5: kind " + one + " as " + kind, x.as(one, kind), is[one].charAt(kind) == '1' ? 50 * one : KIND);
            }
        }
        for (int kind : new int[] {-1, 6, MIN, MAX}) {
            Edges.refused("promise 5: as kind " + kind, Edges::laden, h -> h.as(0, kind), BAD);
        }
        Edges.refused("promise 5: not of that kind", Edges::laden, h -> h.as(1, 1), KIND);
        due("promise 5: BAD lodger, a kind that it would not be", x.as(6, 3), BAD);
    }

    private static void p6Bounds() {
        Edges.within("promise 6: turns of lodger", Edges::laden, (x, v) -> x.turns(v, 1), 0, 4, BAD);
        Edges.within("promise 6: turns to kind", Edges::laden, (x, v) -> x.turns(1, v), 0, 5, BAD);
        LastLight x = lodgers(6);
        due("promise 6: to the last kind", x.turns(0, 5), 0);
        due("promise 6: is of it now", x.as(0, 5), 0);
        due("promise 6: to the first kind", x.turns(5, 0), 5);
        due("promise 6: is of the other no more", x.as(5, 5), KIND);
    }

    private static void p7Bounds() {
        int[][] bounds = {{1, 0, 2}, {2, 0, 599}, {3, -60, 60}, {4, 0, 300}};
        for (int[] b : bounds) {
            Edges.within("promise 7: set what " + b[0] + " to", Edges::laden, (x, v) -> x.set(1, b[0], v), b[1], b[2], BAD);
            LastLight x = Edges.laden();
            x.set(4, b[0], b[1]);
            due("promise 7: the least, what " + b[0], x.told(4, b[0]), b[1]);
            due("promise 7: what it was, what " + b[0], x.set(4, b[0], b[2]), b[1]);
            due("promise 7: the most, what " + b[0], x.told(4, b[0]), b[2]);
        }
        Edges.within("promise 7: set what", Edges::laden, (x, v) -> x.set(1, v, 0), 1, 4, BAD);
        Edges.within("promise 7: set of lodger", Edges::laden, (x, v) -> x.set(v, 1, 0), 0, 4, BAD);
    }

    private static void p8Bounds() {
        Edges.within("promise 8: LAW", Edges::laden, (x, v) -> x.rule(0, v), 0, 3, BAD);
        Edges.within("promise 8: PRICE", Edges::laden, (x, v) -> x.rule(1, v), 0, 99, BAD);
        Edges.within("promise 8: rule what", Edges::laden, (x, v) -> x.rule(v, 0), 0, 1, BAD);
        LastLight x = new LastLight();
        due("promise 8: the most, LAW", x.rule(0, 3), 0);
        due("promise 8: the most, PRICE", x.rule(1, 99), 10);
        due("promise 8: LAW is 3", x.count(2), 3);
        due("promise 8: PRICE is 99", x.count(3), 99);
        due("promise 8: the least, LAW", x.rule(0, 0), 3);
        due("promise 8: the least, PRICE", x.rule(1, 0), 99);
        due("promise 8: PRICE is 0", x.count(3), 0);
    }

    private static void p9Bounds() {
        Edges.within("promise 9: deal", Edges::laden, (x, v) -> x.deal(v), 1, 10, BAD);
        Edges.refused("promise 9: deal 11 of a full house", () -> lodgers(10), x -> x.deal(11), BAD);
        Edges.refused("promise 9: deal 0 of a full house", () -> lodgers(10), x -> x.deal(0), BAD);
        due("promise 9: ten of ten", new LastLight().deal(10), 10);
        due("promise 9: one", new LastLight().deal(1), 1);
    }

    private static int drawn(int z, int times) {
        int drawn = z;
        for (int i = 0; i < times; i++) {
            drawn = drawn * 1103515245 + 12345;
        }
        return drawn;
    }

    private static void p9Room() {
        for (int there = 0; there <= 10; there++) {
            LastLight x = lodgers(there);
            due("promise 9: as many as there is room for, beside " + there, x.deal(10), 10 - there);
            due("promise 9: ten are there", x.count(0), 10);
            due("promise 9: no draws for others", x.count(7), drawn(1, 3 * (10 - there)));
        }
        LastLight nine = lodgers(9);
        due("promise 9: one of one", nine.deal(1), 1);
        Edges.onlyTold("promise 9: no room at all", () -> lodgers(10), x -> x.deal(1), 0);
    }

    /** z is an int: it wraps, and a draw of one below 0 is no less than 0. */
    private static void p9DrawsWrap() {
        for (int seed : new int[] {0, -1, MIN, MAX, 7, 123456789}) {
            LastLight x = new LastLight();
            x.seed(seed);
            x.deal(10);
            long z = seed;
            int[] by = {6, 3, 600};
            for (int i = 0; i < 30; i++) {
                z = (int) ((z * 1103515245L + 12345L) & 0xFFFFFFFFL);
                due("promise 9: drawn from " + seed + ", " + i, x.told(i / 3, i % 3), ((z & 0xFFFFFFFFL) >> 8) % by[i % 3]);
            }
            due("promise 9: z from " + seed, x.count(7), z);
        }
    }

    private static void p10AnyNumber() {
        LastLight x = new LastLight();
        due("promise 10: seed MIN", x.seed(MIN), 1);
        due("promise 10: seed MAX", x.seed(MAX), MIN);
        due("promise 10: seed 0", x.seed(0), MAX);
        due("promise 10: seed -1", x.seed(-1), 0);
        due("promise 10: seed NONE is a number as any", x.seed(NONE), -1);
        due("promise 10: z", x.count(7), NONE);
    }
}
