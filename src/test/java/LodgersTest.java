/** Promises 1 to 10: a new object, and lodgers. */
public final class LodgersTest {
    private static final int BAD = LastLight.BAD, FULL = LastLight.FULL, NONE = LastLight.NONE, KIND = LastLight.KIND;
    private static final int MIN = Integer.MIN_VALUE, MAX = Integer.MAX_VALUE;

    public static void main(String[] args) {
        newObject();
        lodger();
        told();
        burns();
        burnsByText();
        as();
        turns();
        set();
        rule();
        deal();
        seed();
        Due.end();
    }

    private static void due(String call, long got, long want) { Due.due(call, got, want); }

    private static LastLight oneOfEach(int wish) {
        LastLight x = new LastLight();
        for (int kind = 0; kind < 6; kind++) {
            x.lodger(kind, kind % 3, wish);
        }
        return x;
    }

    private static void newObject() {
        LastLight x = new LastLight();
        int[] counts = {0, 0, 0, 10, 0, 0, 0, 1};
        for (int what = 0; what < counts.length; what++) {
            due("new count " + what, x.count(what), counts[what]);
        }
        for (int what = 0; what < 7; what++) {
            due("new house " + what, x.house(what), 0);
        }
        for (int i = 0; i < 4; i++) {
            due("new reads " + i, x.reads(i), LastLight.NOTHING);
        }
        for (int i = 0; i < 5; i++) {
            due("new slot " + i, x.rest(i, 1), LastLight.NOTHING);
        }
        for (int key = 0; key < 3; key++) {
            due("new why " + key, x.why(key), NONE);
        }
        due("new told", x.told(0, 0), BAD);
        due("new fee", x.fee(), 10);
        due("new back", x.back(), LastLight.NO);
        due("new behind", x.behind(100, 0), 0);
        due("new behind of one", x.behind(1, 3), BAD);
    }

    private static void lodger() {
        LastLight x = new LastLight();
        int[][] bad = {{-1, 0, 0}, {6, 0, 0}, {0, -1, 0}, {0, 3, 0}, {0, 0, -1}, {0, 0, 600}, {MIN, MIN, MIN}, {MAX, MAX, MAX}};
        for (int[] b : bad) {
            due("lodger bad", x.lodger(b[0], b[1], b[2]), BAD);
        }
        due("none came", x.count(0), 0);
        for (int i = 0; i < 10; i++) {
            due("lodger " + i, x.lodger(i % 6, i % 3, i == 9 ? 599 : i), i);
        }
        due("lodger 11", x.lodger(0, 0, 0), FULL);
        due("lodger 11 bad", x.lodger(6, 0, 0), BAD);
        due("ten", x.count(0), 10);
        due("wish", x.told(9, 2), 599);
    }

    private static void told() {
        LastLight x = new LastLight();
        x.lodger(3, 2, 345);
        int[] first = {3, 2, 345, 0, 0, 0, 0, 0, 0, 2 * (34 + 5)};
        for (int what = 0; what < first.length; what++) {
            due("told " + what, x.told(0, what), first[what]);
        }
        due("told -1", x.told(0, -1), BAD);
        due("told 10", x.told(0, 10), BAD);
        due("told of none", x.told(1, 0), BAD);
        due("told of -1", x.told(-1, 0), BAD);
        int[] worth = {34, 39, 65, 78, 56, 1};
        LastLight y = oneOfEach(345);
        for (int kind = 0; kind < 6; kind++) {
            due("worth " + kind, y.told(kind, 9), worth[kind]);
        }
    }

    private static void burns() {
        LastLight x = oneOfEach(301);
        int[] at50 = {351, 411, 175, 411, 205, 0};
        int[] at51 = {352, 412, 176, 599, 206, 0};
        for (int kind = 0; kind < 6; kind++) {
            due("burns 50 of " + kind, x.burns(kind, 50), at50[kind]);
            due("burns 51 of " + kind, x.burns(kind, 51), at51[kind]);
            x.set(kind, 2, 599);
        }
        int[] late = {599, 599, 299, 599, 329, 0};
        for (int kind = 0; kind < 6; kind++) {
            due("burns late of " + kind, x.burns(kind, 10), late[kind]);
            x.set(kind, 2, 10);
            x.set(kind, 4, 300);
        }
        int[] afraid = {0, 60, 0, 60, 30, 0};
        for (int kind = 0; kind < 6; kind++) {
            due("burns afraid of " + kind, x.burns(kind, 10), afraid[kind]);
        }
        due("burns x -1", x.burns(0, -1), BAD);
        due("burns x 60", x.burns(0, 60), BAD);
        due("burns of -1", x.burns(-1, 0), BAD);
        due("burns of 6", x.burns(6, 0), BAD);
        due("burns changes nothing", x.told(0, 5), 0);
    }

    private static void burnsByText() {
        LastLight x = oneOfEach(100);
        due("text", Due.textOf(x, "burn w*3-f+x"), 0);
        int[] first = {309, 369, 154, 369, 184, 0};
        for (int kind = 0; kind < 6; kind++) {
            due("burns by text of " + kind, x.burns(kind, 9), first[kind]);
        }
        Due.textOf(x, "burn 0-5");
        int[] below = {0, 60, 0, 60, 30, 0};
        for (int kind = 0; kind < 6; kind++) {
            due("burns below of " + kind, x.burns(kind, 9), below[kind]);
        }
        Due.textOf(x, "burn 9999");
        int[] above = {599, 599, 299, 599, 329, 0};
        for (int kind = 0; kind < 6; kind++) {
            due("burns above of " + kind, x.burns(kind, 9), above[kind]);
        }
    }

    private static void as() {
        LastLight x = oneOfEach(77);
        String[] is = {"100000", "110000", "101000", "110100", "101010", "100001"};
        for (int l = 0; l < 6; l++) {
            for (int kind = 0; kind < 6; kind++) {
                due("as " + l + " " + kind, x.as(l, kind), is[l].charAt(kind) == '1' ? 77 : KIND);
            }
            due("as -1", x.as(l, -1), BAD);
            due("as 6", x.as(l, 6), BAD);
        }
        due("as of 6", x.as(6, 0), BAD);
        due("as of -1", x.as(-1, 0), BAD);
    }

    private static void turns() {
        LastLight x = oneOfEach(100);
        due("turns", x.turns(0, 5), 0);
        due("turns again", x.turns(0, 5), 5);
        due("kind", x.told(0, 0), 5);
        due("burns now", x.burns(0, 59), 0);
        due("turns -1", x.turns(0, -1), BAD);
        due("turns 6", x.turns(0, 6), BAD);
        due("turns of 6", x.turns(6, 0), BAD);
        due("kind still", x.told(0, 0), 5);
        due("wish still", x.told(0, 2), 100);
    }

    private static void set() {
        LastLight x = new LastLight();
        x.lodger(0, 1, 100);
        int[][] bounds = {{1, 0, 2, 1}, {2, 0, 599, 100}, {3, -60, 60, 0}, {4, 0, 300, 0}};
        for (int[] b : bounds) {
            due("set low " + b[0], x.set(0, b[0], b[1]), b[3]);
            due("set high " + b[0], x.set(0, b[0], b[2]), b[1]);
            due("set below " + b[0], x.set(0, b[0], b[1] - 1), BAD);
            due("set above " + b[0], x.set(0, b[0], b[2] + 1), BAD);
            due("told " + b[0], x.told(0, b[0]), b[2]);
        }
        due("set 0", x.set(0, 0, 0), BAD);
        due("set 5", x.set(0, 5, 0), BAD);
        due("set of 1", x.set(1, 1, 0), BAD);
        due("set of -1", x.set(-1, 1, 0), BAD);
    }

    private static void rule() {
        LastLight x = new LastLight();
        due("law", x.rule(0, 3), 0);
        due("law back", x.rule(0, 0), 3);
        due("law 4", x.rule(0, 4), BAD);
        due("law -1", x.rule(0, -1), BAD);
        due("price", x.rule(1, 99), 10);
        due("price again", x.rule(1, 0), 99);
        due("price 100", x.rule(1, 100), BAD);
        due("price -1", x.rule(1, -1), BAD);
        due("rule 2", x.rule(2, 0), BAD);
        due("rule -1", x.rule(-1, 0), BAD);
        due("law told", x.count(2), 0);
        due("price told", x.count(3), 0);
    }

    private static void deal() {
        LastLight x = new LastLight();
        due("deal 0", x.deal(0), BAD);
        due("deal 11", x.deal(11), BAD);
        due("z still", x.count(7), 1);
        int z = 1;
        due("deal 3", x.deal(3), 3);
        int[] by = {6, 3, 600};
        for (int l = 0; l < 3; l++) {
            for (int what = 0; what < 3; what++) {
                z = z * 1103515245 + 12345;
                due("dealt " + l + " " + what, x.told(l, what), (z >>> 8) % by[what]);
            }
        }
        due("z", x.count(7), z);
        due("deal 10", x.deal(10), 7);
        for (int i = 0; i < 21; i++) {
            z = z * 1103515245 + 12345;
        }
        due("no draws for others", x.count(7), z);
        due("deal none", x.deal(1), 0);
        due("no draws", x.count(7), z);
    }

    private static void seed() {
        LastLight x = new LastLight();
        due("seed", x.seed(MIN), 1);
        due("seed again", x.seed(-7), MIN);
        due("z", x.count(7), -7);
        x.deal(1);
        due("z drawn", x.told(0, 0), ((-7 * 1103515245 + 12345) >>> 8) % 6);
    }
}
