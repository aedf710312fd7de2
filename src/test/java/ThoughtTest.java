/** Promises 14 to 22: what will be. */
public final class ThoughtTest {
    private static final int BAD = LastLight.BAD, NONE = LastLight.NONE;

    public static void main(String[] args) {
        behind();
        bestLaw();
        bedtime();
        wrong();
        moved();
        dark();
        wished();
        fee();
        fine();
        nothingChanges();
        Due.end();
    }

    private static void due(String call, long got, long want) { Due.due(call, got, want); }

    /** Lodgers with these wishes, all on stair 0, that burn by a text. */
    private static LastLight with(String text, int... wishes) {
        LastLight x = new LastLight();
        Due.textOf(x, text);
        for (int wish : wishes) {
            x.lodger(0, 0, wish);
        }
        return x;
    }

    private static void behind() {
        LastLight x = new LastLight();
        x.seed(99);
        x.deal(6);
        x.nights(3);
        for (int what = 0; what < 9; what++) {
            LastLight y = new LastLight();
            y.seed(99);
            y.deal(6);
            y.nights(3);
            int thought = x.behind(17, what);
            y.nights(17);
            due("behind 17, " + what, thought, what == 0 ? y.house(2) : what == 1 ? y.house(1) : what == 2 ? y.house(3) : y.told(what - 3, 6));
        }
        due("behind 0", x.behind(0, 0), x.house(2));
        due("behind -1", x.behind(-1, 0), BAD);
        due("behind 101", x.behind(101, 0), BAD);
        due("behind what -1", x.behind(1, -1), BAD);
        due("behind of 6", x.behind(1, 9), BAD);
        due("behind of max", x.behind(1, Integer.MAX_VALUE), BAD);
        due("behind of min", x.behind(1, Integer.MIN_VALUE), BAD);
    }

    private static void bestLaw() {
        LastLight x = with("burn w", 100, 200);
        x.rule(0, 2);
        due("of several the least", x.bestLaw(5, 0), 0);
        due("read", x.bestLaw(5, 1), 1500);
        // The last pays 20 of fear each night; if all pay, both fear; the second fears no more than the last.
        LastLight y = with("burn w-f", 100, 500);
        due("best law", y.bestLaw(1, 0), 0);
        due("read of 2 nights", y.bestLaw(2, 1), 600 + 580);
        y.turns(0, 4);
        y.rule(0, 1);
        due("who fears nothing pays", y.bestLaw(3, 0), 2);
        due("read then", y.bestLaw(3, 1), 3 * (80 + 500));
        due("law is as it was", y.count(2), 1);
        lawByLotIsBest();
        due("bestLaw 0", x.bestLaw(0, 0), BAD);
        due("bestLaw 61", x.bestLaw(61, 0), BAD);
        due("bestLaw what 2", x.bestLaw(1, 2), BAD);
        due("bestLaw what -1", x.bestLaw(1, -1), BAD);
    }

    /** An informer that is neither the last nor the second fears nothing; by some lot it pays. */
    private static void lawByLotIsBest() {
        LastLight x = with("burn w-f", 100, 500, 500);
        x.turns(0, 4);
        int z = 0;
        for (int tried = 1; tried <= 50 && z == 0; tried++) {
            int drawn = tried;
            for (int i = 0; i < 4; i++) {
                drawn = drawn * 1103515245 + 12345;
            }
            z = (drawn >>> 8) % 3 == 0 ? tried : 0;
        }
        x.seed(z);
        due("by lot", x.bestLaw(2, 0), 3);
        due("by lot, read", x.bestLaw(2, 1), 2 * (80 + 500 + 500));
    }

    private static void bedtime() {
        LastLight x = with("burn 100", 300);
        due("of several the least", x.bedtime(0, 3, 0), 0);
        due("the sum", x.bedtime(0, 3, 1), 270);
        LastLight y = with("burn w", 300, 310);
        due("latest", y.bedtime(0, 2, 0), 580);
        due("latest sum", y.bedtime(0, 2, 1), 1160 - 2 * 89);
        y.rule(1, 99);
        // As the last it would pay nearly twice what it reads, so it had best be right ahead of that.
        due("ahead of the last", y.bedtime(0, 1, 0), 300);
        due("ahead of the last, sum", y.bedtime(0, 1, 1), 300);
        y.set(1, 2, 300);
        due("a tie is not the last", y.bedtime(0, 1, 0), 300);
        due("but the greater number is", y.bedtime(1, 1, 0), 280);
        due("wish is as it was", y.told(0, 2), 300);
        LastLight z = with("burn w", 100, 100);
        z.rule(1, 99);
        z.nights(100);
        z.set(1, 2, 0);
        due("all below 0", z.bedtime(1, 1, 1), 10000 - 198 * 100 + 80);
        due("all below 0, wish", z.bedtime(1, 1, 0), 80);
        due("bedtime 0", y.bedtime(0, 0, 0), BAD);
        due("bedtime 41", y.bedtime(0, 41, 0), BAD);
        due("bedtime what 2", y.bedtime(0, 1, 2), BAD);
        due("bedtime what -1", y.bedtime(0, 1, -1), BAD);
        due("bedtime of 2", y.bedtime(2, 1, 0), BAD);
        due("bedtime of -1", y.bedtime(-1, 1, 0), BAD);
    }

    private static void wrong() {
        LastLight x = with("burn w", 100);
        x.set(0, 3, 33);
        due("alone", x.wrong(0, 4, 0), 0);
        due("alone purse", x.wrong(0, 4, 1), -40);
        LastLight y = with("burn w", 100, 130);
        y.rule(0, 2);
        due("ahead of the other", y.wrong(0, 1, 0), 40);
        due("ahead, purse", y.wrong(0, 1, 1), 0);
        due("the other is ahead as it is", y.wrong(1, 1, 0), 0);
        LastLight z = with("burn w", 95, 100, 105);
        z.rule(0, 2);
        due("the one below", z.wrong(1, 1, 0), -10);
        LastLight last = with("burn w", 90, 100, 150);
        due("slow", last.wrong(2, 1, 0), -60);
        LastLight far = with("burn w", 100, 159);
        far.rule(0, 2);
        due("just by 60", far.wrong(0, 1, 0), 60);
        far.set(1, 2, 165);
        due("by 70 only", far.wrong(0, 1, 0), 0);
        due("by 70 only, purse", far.wrong(0, 1, 1), -26);
        far.rule(0, 0);
        due("by -70 only", far.wrong(1, 1, 0), 0);
        far.set(1, 2, 160);
        due("just by -60, a tie", far.wrong(1, 1, 0), 0);
        far.set(1, 2, 159);
        due("just by -60", far.wrong(1, 1, 0), -60);
        due("clock is as it was", x.told(0, 3), 33);
        due("wrong 0", x.wrong(0, 0, 0), BAD);
        due("wrong 41", x.wrong(0, 41, 0), BAD);
        due("wrong what 2", x.wrong(0, 1, 2), BAD);
        due("wrong what -1", x.wrong(0, 1, -1), BAD);
        due("wrong of 1", x.wrong(1, 1, 0), BAD);
        due("wrong of -1", x.wrong(-1, 1, 0), BAD);
    }

    private static void moved() {
        LastLight x = with("burn w", 100, 50, 200, 90);
        due("of several the least", x.moved(0, 2, 0), 0);
        due("purse", x.moved(0, 2, 1), 0);
        x.turns(0, 5);
        due("of all the least", x.moved(0, 2, 0), 0);
        x.turns(0, 0);
        x.set(2, 1, 1);
        x.set(0, 1, 2);
        due("to a later one", x.moved(0, 1, 0), 1);
        x.set(2, 1, 2);
        due("stays", x.moved(0, 1, 0), 2);
        due("nowhere for nothing", x.moved(2, 3, 1), -60);
        due("nowhere for nothing, stair", x.moved(2, 3, 0), 1);
        due("stair is as it was", x.told(2, 1), 2);
        due("moved 0", x.moved(0, 0, 0), BAD);
        due("moved 61", x.moved(0, 61, 0), BAD);
        due("moved what 2", x.moved(0, 1, 2), BAD);
        due("moved what -1", x.moved(0, 1, -1), BAD);
        due("moved of 4", x.moved(4, 1, 0), BAD);
        due("moved of -1", x.moved(-1, 1, 0), BAD);
    }

    private static void dark() {
        due("dark of none", new LastLight().dark(), NONE);
        due("half is not less", with("burn 10", 21).dark(), NONE);
        due("less than half", with("burn 10", 22).dark(), 1);
        // 100, 80, 60, 40: below 50 in the fourth night.
        LastLight x = with("burn w-f", 100);
        due("by fear", x.dark(), 4);
        x.nights(2);
        due("from now on", x.dark(), 2);
        due("never", with("burn w", 100, 599).dark(), NONE);
        // Who is SICK and does not pay fears 1 less each night, from 100 on it burns till 60.
        LastLight y = with("burn (f>100)*599", 599);
        y.turns(0, 3);
        y.rule(1, 0);
        y.set(0, 4, 299);
        due("in the last night", y.dark(), 200);
        y.set(0, 4, 300);
        due("one night late", y.dark(), NONE);
    }

    private static void wished() {
        LastLight x = with("burn w", 300, 100);
        x.sheet(0, 0, 1);
        x.mark(0, 0, 30);
        due("of several the least", x.wished(0, 0, 0), 20);
        due("differences", x.wished(0, 0, 1), 10);
        x.sheet(1, 1, 3);
        x.mark(1, 0, LastLight.NONE);
        x.mark(1, 1, -50);
        x.mark(1, 2, 99999);
        due("far", x.wished(1, 1, 0), 0);
        due("far differences", x.wished(1, 1, 1), 50 + 99999);
        x.mark(0, 0, 599);
        due("the last wish", x.wished(0, 0, 0), 580);
        due("the last wish, differences", x.wished(0, 0, 1), 19);
        x.sheet(2, 1, 0);
        due("no places", x.wished(2, 0, 0), 0);
        due("no differences", x.wished(2, 0, 1), 0);
        LastLight y = with("burn w-f", 7);
        y.sheet(3, 0, 3);
        y.mark(3, 0, 400);
        y.mark(3, 1, 380);
        y.mark(3, 2, 361);
        due("night by night", y.wished(3, 0, 0), 400);
        due("night by night, differences", y.wished(3, 0, 1), 1);
        due("wish is as it was", y.told(0, 2), 7);
        due("missing", y.wished(0, 0, 0), LastLight.NOTHING);
        due("bad ahead of missing", y.wished(0, 1, 0), BAD);
        due("wished what 2", y.wished(0, 0, 2), BAD);
        due("wished what -1", y.wished(3, 0, -1), BAD);
        due("wished sheet 4", y.wished(4, 0, 0), BAD);
        due("wished sheet -1", y.wished(-1, 0, 0), BAD);
        due("wished of -1", y.wished(3, -1, 0), BAD);
    }

    private static void fee() {
        LastLight x = new LastLight();
        x.rule(1, 33);
        due("price", x.fee(), 33);
        Due.textOf(x, "fee n*100+p");
        due("fee", x.fee(), 33);
        x.nights(4);
        due("fee later", x.fee(), 433);
        x.lodger(0, 0, 100);
        Due.textOf(x, "burn 100");
        due("a night costs by price", x.nights(1), 33);
    }

    private static void fine() {
        LastLight x = with("burn w", 100, 400);
        x.nights(2);
        due("read", x.fine(1), 800);
        Due.textOf(x, "fine r*1000+c");
        due("fine of 0", x.fine(0), 200600);
        due("fine of 1", x.fine(1), 800000);
        due("fine of 2", x.fine(2), BAD);
        due("fine of -1", x.fine(-1), BAD);
        due("purse is not touched", x.house(1), -100);
    }

    private static void nothingChanges() {
        LastLight x = new LastLight();
        x.seed(5);
        x.deal(7);
        x.nights(9);
        x.sheet(0, 0, 5);
        int[] before = state(x);
        x.behind(50, 0);
        x.bestLaw(20, 0);
        x.bedtime(3, 20, 0);
        x.wrong(3, 20, 0);
        x.moved(3, 20, 0);
        x.dark();
        x.wished(0, 3, 0);
        x.fee();
        x.fine(3);
        x.longest();
        int[] behind = state(x);
        for (int i = 0; i < before.length; i++) {
            due("state " + i, behind[i], before[i]);
        }
    }

    private static int[] state(LastLight x) {
        int[] all = new int[78];
        for (int i = 0; i < 70; i++) {
            all[i] = x.told(i / 10, i % 10);
        }
        for (int what = 0; what < 8; what++) {
            all[70 + what] = x.count(what);
        }
        return all;
    }
}
