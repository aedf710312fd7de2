import java.util.function.Supplier;

/** Boundary cases of promises 14 to 22 and of the terms on what is only thought, each sentence by itself. */
public final class EdgesOfThoughtTest {
    private static final int BAD = LastLight.BAD, NONE = LastLight.NONE, NOTHING = LastLight.NOTHING;
    private static final int WISH = 2, CLOCK = 3, FEAR = 4, PURSE = 6, READ = 7;

    public static void main(String[] args) {
        nothingChanges();
        beyondTheLastNight();
        nothingIsLeftOfAnotherThought();
        fullHouse();
        p14Bounds();
        p14NoNights();
        p15Bounds();
        p15OfSeveralTheLeast();
        p15LastLaw();
        p16Bounds();
        p16FirstAndLastWish();
        p17Bounds();
        p17FirstAndLastClock();
        p17OfSeveral();
        p18Bounds();
        p18OfSeveralTheLeast();
        p19FirstAndLastNight();
        p19LessThanHalf();
        p20Bounds();
        p20Places();
        p20OfSeveralTheLeast();
        p21Fee();
        p22Fine();
        Due.end();
    }

    private static void due(String call, long got, long want) { Due.due(call, got, want); }

    private static LastLight with(String text, int... wishes) { return Edges.with(text, wishes); }

    private static LastLight with(Supplier<LastLight> made, int lodger, int what, int v) {
        LastLight x = made.get();
        x.set(lodger, what, v);
        return x;
    }

    private static void nothingChanges() {
        int[] calls = {14, 15, 16, 17, 18, 19, 20, 21, 22};
        for (int promise : calls) {
            LastLight x = Edges.laden();
            switch (promise) {
                case 14: x.behind(100, 3); break;
                case 15: x.bestLaw(60, 0); break;
                case 16: x.bedtime(4, 40, 0); break;
                case 17: x.wrong(4, 40, 0); break;
                case 18: x.moved(4, 60, 0); break;
                case 19: x.dark(); break;
                case 20: x.wished(0, 4, 0); break;
                case 21: x.fee(); break;
                default: x.fine(4); break;
            }
            Edges.same("promise " + promise + ": nothing changes", x, Edges.laden());
        }
    }

    /** At 9999 no night comes any more, but what is thought goes on. */
    private static void beyondTheLastNight() {
        LastLight x = Edges.atNight(9999);
        due("promise 14: beyond 9999", x.behind(100, 3), -99990 - 1000);
        due("promise 15: beyond 9999", x.bestLaw(60, 1), 999900 + 6000);
        due("promise 16: beyond 9999", x.bedtime(0, 40, 1), 999900 - 99990 + 40 * (580 - 58));
        due("promise 17: beyond 9999", x.wrong(0, 40, 1), -99990 - 400);
        due("promise 18: beyond 9999", x.moved(0, 60, 1), -99990 - 600);
        x.sheet(0, 0, 2);
        x.mark(0, 0, 220);
        x.mark(0, 1, 220);
        due("promise 20: beyond 9999", x.wished(0, 0, 0), 220);
        Due.textOf(x, "burn w-f");
        x.set(0, FEAR, 0);
        due("promise 19: beyond 9999", x.dark(), 4);
        due("promise 19: no night is more", x.count(1), 9999);
    }

    /** What was best in another call, and was more than all that is thought now, counts for nothing. */
    private static void nothingIsLeftOfAnotherThought() {
        int[] alone = new int[10];
        for (int i = 0; i < alone.length; i++) {
            alone[i] = thought(Edges.laden(), i);
        }
        for (int first = 0; first < alone.length; first++) {
            LastLight x = Edges.laden();
            thought(x, first);
            for (int i = 0; i < alone.length; i++) {
                due("promise " + (15 + i / 2 + (i > 7 ? 1 : 0)) + ": behind another thought, " + first + " ahead of " + i, thought(x, i), alone[i]);
                thought(x, first);
            }
        }
    }

    /** Of bestLaw, bedtime, wrong, moved, wished: what 0 and 1. */
    private static int thought(LastLight x, int which) {
        switch (which / 2) {
            case 0: return x.bestLaw(1, which % 2);
            case 1: return x.bedtime(1, 40, which % 2);
            case 2: return x.wrong(0, 40, which % 2);
            case 3: return x.moved(0, 60, which % 2);
            default: return x.wished(0, 2, which % 2);
        }
    }

    private static void fullHouse() {
        LastLight x = with("burn w", 100, 200, 300, 400, 500, 500, 400, 300, 200, 100);
        due("promise 14: READ of ten", x.behind(2, 0), 6000);
        due("promise 14: PURSES of ten", x.behind(2, 1), -600);
        due("promise 14: CHINK of ten", x.behind(2, 2), 800);
        due("promise 14: PURSE of the first that is last", x.behind(2, 3 + 5), -600);
        due("promise 15: READ of ten", x.bestLaw(60, 1), 180000);
        due("promise 16: the tenth, just not the last", x.bedtime(9, 1, 0), 480);
        due("promise 17: the tenth", x.wrong(9, 1, 0), 0);
        due("promise 18: the tenth", x.moved(9, 1, 0), 0);
        due("promise 19: ten", x.dark(), NONE);
        for (int i = 0; i < 10; i++) {
            x.set(i, WISH, 599);
        }
        Due.textOf(x, "burn 299");
        due("promise 19: ten, less than half", x.dark(), 1);
        Due.textOf(x, "burn 300");
        due("promise 19: ten, not less", x.dark(), NONE);
        x.sheet(0, 0, 1);
        Due.textOf(x, "burn w");
        x.mark(0, 0, 100);
        due("promise 20: the tenth", x.wished(0, 9, 0), 100);
        due("promise 22: the tenth", x.fine(9), 0);
    }

    private static void p14Bounds() {
        Edges.within("promise 14: behind n", Edges::laden, (x, v) -> x.behind(v, 0), 0, 100, BAD);
        Edges.within("promise 14: behind what, five lodgers", Edges::laden, (x, v) -> x.behind(1, v), 0, 7, BAD);
        Edges.within("promise 14: behind what, no lodgers", LastLight::new, (x, v) -> x.behind(1, v), 0, 2, BAD);
        LastLight ten = with("burn w", 1, 1, 1, 1, 1, 1, 1, 1, 1, 100);
        due("promise 14: PURSE of the tenth", ten.behind(1, 12), -10);
        due("promise 14: there is no eleventh", ten.behind(1, 13), BAD);
        for (int n : new int[] {1, 99, 100}) {
            LastLight x = Edges.laden();
            LastLight y = Edges.laden();
            y.nights(n);
            due("promise 14: READ behind " + n, x.behind(n, 0), y.house(2));
            due("promise 14: PURSES behind " + n, x.behind(n, 1), y.house(1));
            due("promise 14: CHINK behind " + n, x.behind(n, 2), y.house(3));
            for (int k = 0; k < 5; k++) {
                due("promise 14: PURSE of " + k + " behind " + n, x.behind(n, 3 + k), y.told(k, PURSE));
            }
        }
    }

    private static void p14NoNights() {
        LastLight x = Edges.laden();
        due("promise 14: READ behind 0", x.behind(0, 0), x.house(2));
        due("promise 14: PURSES behind 0", x.behind(0, 1), x.house(1));
        due("promise 14: CHINK behind 0", x.behind(0, 2), x.house(3));
        due("promise 14: PURSE behind 0", x.behind(0, 3), x.told(0, PURSE));
        due("promise 14: of nobody behind 0", x.behind(0, 8), BAD);
    }

    private static void p15Bounds() {
        Edges.within("promise 15: bestLaw n", Edges::laden, (x, v) -> x.bestLaw(v, 0), 1, 60, BAD);
        Edges.within("promise 15: bestLaw what", Edges::laden, (x, v) -> x.bestLaw(1, v), 0, 1, BAD);
        for (int n : new int[] {1, 60}) {
            int best = -1, most = 0;
            for (int law = 0; law < 4; law++) {
                LastLight y = Edges.laden();
                y.rule(0, law);
                y.nights(n);
                if (best < 0 || y.house(2) > most) {
                    best = law;
                    most = y.house(2);
                }
            }
            due("promise 15: the law for " + n, Edges.laden().bestLaw(n, 0), best);
            due("promise 15: READ for " + n, Edges.laden().bestLaw(n, 1), most);
        }
    }

    private static void p15OfSeveralTheLeast() {
        for (int law = 0; law < 4; law++) {
            LastLight x = with("burn w", 100, 200);
            x.rule(0, law);
            due("promise 15: of several the least, by law " + law, x.bestLaw(60, 0), 0);
            due("promise 15: the law stays " + law, x.count(2), law);
        }
        // Who pays first fears, but one night shows nothing of it.
        LastLight y = with("burn w-f", 100, 500);
        y.turns(1, 4);
        due("promise 15: the first law alone", y.bestLaw(2, 0), 0);
        y.turns(1, 0);
        y.turns(0, 4);
        due("promise 15: not the least, if it is less", y.bestLaw(2, 0), 2);
    }

    /** An informer fears nothing: who lets it pay lets most be read, and by some lot only it pays. */
    private static void p15LastLaw() {
        int seed = 1;
        while (payerByLot(seed) != 0) {
            seed++;
        }
        LastLight x = with("burn w-f", 100, 500, 500);
        x.turns(0, 4);
        x.seed(seed);
        due("promise 15: the last law", x.bestLaw(2, 0), 3);
        due("promise 15: the last law, READ", x.bestLaw(2, 1), 2 * (80 + 500 + 500));
    }

    private static int payerByLot(int seed) {
        int z = seed;
        for (int i = 0; i < 4; i++) {
            z = z * 1103515245 + 12345;
        }
        return (z >>> 8) % 3;
    }

    private static void p16Bounds() {
        Edges.within("promise 16: bedtime of lodger", Edges::laden, (x, v) -> x.bedtime(v, 1, 0), 0, 4, BAD);
        Edges.within("promise 16: bedtime n", Edges::laden, (x, v) -> x.bedtime(0, v, 0), 1, 40, BAD);
        Edges.within("promise 16: bedtime what", Edges::laden, (x, v) -> x.bedtime(0, 1, v), 0, 1, BAD);
        for (int n : new int[] {1, 40}) {
            int best = -1, most = 0;
            for (int wish = 0; wish < 600; wish += 20) {
                LastLight y = with(Edges::laden, 0, WISH, wish);
                y.nights(n);
                int sum = y.told(0, READ) + y.told(0, PURSE);
                if (best < 0 || sum > most) {
                    best = wish;
                    most = sum;
                }
            }
            due("promise 16: the wish for " + n, Edges.laden().bedtime(0, n, 0), best);
            due("promise 16: the sum for " + n, Edges.laden().bedtime(0, n, 1), most);
        }
    }

    private static void p16FirstAndLastWish() {
        LastLight x = with("burn w", 7);
        due("promise 16: the last wish is 580", x.bedtime(0, 1, 0), 580);
        due("promise 16: its sum", x.bedtime(0, 1, 1), 580 - 58);
        LastLight y = with("burn 599-w", 7);
        due("promise 16: the first wish is 0", y.bedtime(0, 1, 0), 0);
        due("promise 16: its sum of 0", y.bedtime(0, 1, 1), 599 - 59);
        due("promise 16: of several the least", with("burn 300", 580).bedtime(0, 40, 0), 0);
        // 20 apart: of 539 .. 561 only 540 and 560 are tried.
        due("promise 16: of two the least", with("burn (w>539&w<561)*100", 7).bedtime(0, 1, 0), 540);
        due("promise 16: by twenties", with("burn (w>541&w<560)*500+(w>559&w<580)*5", 7).bedtime(0, 1, 0), 560);
        due("promise 16: none above 580", with("burn (w>580)*500+5", 7).bedtime(0, 1, 0), 0);
        LastLight z = with("burn w", 100);
        z.rule(1, 99);
        z.lodger(0, 0, 599);
        z.set(1, CLOCK, -60);
        due("promise 16: all but the last is read for nothing", z.bedtime(0, 1, 0), 520);
        LastLight all = with("burn 9", 0, 599, 599);
        all.set(1, CLOCK, -60);
        all.set(2, CLOCK, -60);
        all.rule(1, 99);
        all.set(0, CLOCK, 60);
        due("promise 16: all sums below 0", all.bedtime(0, 1, 1), 9 - 26);
        due("promise 16: all sums below 0, the least", all.bedtime(0, 1, 0), 0);
    }

    private static void p17Bounds() {
        Edges.within("promise 17: wrong of lodger", Edges::laden, (x, v) -> x.wrong(v, 1, 0), 0, 4, BAD);
        Edges.within("promise 17: wrong n", Edges::laden, (x, v) -> x.wrong(0, v, 0), 1, 40, BAD);
        Edges.within("promise 17: wrong what", Edges::laden, (x, v) -> x.wrong(0, 1, v), 0, 1, BAD);
        for (int n : new int[] {1, 40}) {
            int most = Integer.MIN_VALUE;
            for (int clock = -60; clock <= 60; clock += 10) {
                LastLight y = with(Edges::laden, 0, CLOCK, clock);
                y.nights(n);
                most = Math.max(most, y.told(0, PURSE));
            }
            due("promise 17: PURSE for " + n, Edges.laden().wrong(0, n, 1), most);
            LastLight best = with(Edges::laden, 0, CLOCK, Edges.laden().wrong(0, n, 0));
            best.nights(n);
            due("promise 17: the clock for " + n, best.told(0, PURSE), most);
        }
    }

    /** A clock that is just slow enough not to be the last; just fast enough not to be the second. */
    private static void p17FirstAndLastClock() {
        int[][] slow = {{100, 0}, {101, -10}, {110, -10}, {111, -20}, {150, -50}, {151, -60}, {160, -60}, {161, 0}, {200, 0}};
        for (int[] s : slow) {
            LastLight x = with("burn w", s[0], 100);
            due("promise 17: " + s[0] + " beside 100, not the last", x.wrong(0, 1, 0), s[1]);
        }
        int[][] fast = {{100, 10}, {99, 10}, {91, 10}, {90, 20}, {51, 50}, {50, 60}, {41, 60}, {40, 0}, {0, 0}};
        for (int[] f : fast) {
            LastLight x = with("burn w", f[0], 100);
            x.rule(0, 2);
            due("promise 17: " + f[0] + " beside 100, not the second", x.wrong(0, 1, 0), f[1]);
        }
    }

    private static void p17OfSeveral() {
        LastLight alone = with("burn w", 100);
        alone.set(0, CLOCK, 60);
        due("promise 17: of all the one nearest to 0", alone.wrong(0, 1, 0), 0);
        due("promise 17: the clock stays", alone.told(0, CLOCK), 60);
        LastLight x = with("burn w", 95, 100, 105);
        x.rule(0, 2);
        due("promise 17: of -10 and 10 the one below", x.wrong(1, 1, 0), -10);
        x.set(0, WISH, 85);
        due("promise 17: of -20 and 10 the nearer", x.wrong(1, 1, 0), 10);
        x.set(0, WISH, 95);
        x.set(2, WISH, 115);
        due("promise 17: of -10 and 20 the nearer", x.wrong(1, 1, 0), -10);
        x.set(0, WISH, 45);
        x.set(2, WISH, 155);
        due("promise 17: of -60 and 60 the one below", x.wrong(1, 1, 0), -60);
        x.set(0, WISH, 35);
        due("promise 17: 60 alone", x.wrong(1, 1, 0), 60);
        x.set(2, WISH, 165);
        due("promise 17: none is near enough", x.wrong(1, 1, 0), 0);
    }

    private static void p18Bounds() {
        Edges.within("promise 18: moved of lodger", Edges::laden, (x, v) -> x.moved(v, 1, 0), 0, 4, BAD);
        Edges.within("promise 18: moved n", Edges::laden, (x, v) -> x.moved(0, v, 0), 1, 60, BAD);
        Edges.within("promise 18: moved what", Edges::laden, (x, v) -> x.moved(0, 1, v), 0, 1, BAD);
        for (int n : new int[] {1, 60}) {
            int best = -1, most = 0;
            for (int stair = 0; stair < 3; stair++) {
                LastLight y = with(Edges::laden, 0, 1, stair);
                y.nights(n);
                if (best < 0 || y.told(0, PURSE) > most) {
                    best = stair;
                    most = y.told(0, PURSE);
                }
            }
            due("promise 18: the stair for " + n, Edges.laden().moved(0, n, 0), best);
            due("promise 18: PURSE for " + n, Edges.laden().moved(0, n, 1), most);
        }
    }

    private static void p18OfSeveralTheLeast() {
        LastLight x = with("burn w", 100);
        x.set(0, 1, 2);
        due("promise 18: of all the least", x.moved(0, 60, 0), 0);
        due("promise 18: the stair stays", x.told(0, 1), 2);
        x.lodger(0, 2, 200);
        due("promise 18: the last stair", x.moved(0, 1, 0), 2);
        x.lodger(0, 1, 200);
        due("promise 18: of two the least", x.moved(0, 1, 0), 1);
        x.lodger(0, 0, 200);
        due("promise 18: of three the least", x.moved(0, 1, 0), 0);
    }

    private static void p19FirstAndLastNight() {
        due("promise 19: the first night", with("burn 0", 599).dark(), 1);
        due("promise 19: the second night", with("burn (f=0)*599", 599).dark(), 2);
        LastLight z = with("burn (f>99)*599", 599);
        z.turns(0, 5);
        due("promise 19: BLIND in the first night", z.dark(), 1);
        LastLight student = with("burn (f<300)*599", 599);
        student.turns(0, 1);
        due("promise 19: behind sixty nights of fear", student.dark(), 61);
        due("promise 19: the last night, 200", nightOfDark(199), 200);
        due("promise 19: the first of them that is too late, 201", nightOfDark(200), NONE);
        due("promise 19: one ahead of the last", nightOfDark(198), 199);
        due("promise 19: never", with("burn w", 599).dark(), NONE);
    }

    /** DARK, if one burns for so many nights only: one that is SICK and pays nothing fears 1 less each night. */
    private static int nightOfDark(int nights) {
        LastLight x = with("burn (f>100)*599", 599);
        x.turns(0, 3);
        x.rule(1, 0);
        x.set(0, FEAR, 100 + nights);
        // In the night behind these x must not be above 50, or it would burn till 599 all the same.
        int seed = 1;
        while (xOfNight(seed, nights + 1) > 50) {
            seed++;
        }
        x.seed(seed);
        return x.dark();
    }

    private static int xOfNight(int seed, int night) {
        int z = seed;
        for (int i = 0; i < night; i++) {
            z = z * 1103515245 + 12345;
        }
        return (z >>> 8) % 60;
    }

    private static void p19LessThanHalf() {
        due("promise 19: half is not less", with("burn 10", 20).dark(), NONE);
        due("promise 19: half is cut", with("burn 10", 21).dark(), NONE);
        due("promise 19: less than half", with("burn 10", 22).dark(), 1);
        due("promise 19: less than half, cut", with("burn 9", 21).dark(), 1);
        due("promise 19: half of 1 is 0", with("burn 0", 1).dark(), NONE);
        due("promise 19: half of 2 is 1", with("burn 0", 2).dark(), 1);
        due("promise 19: half of 0 is 0", with("burn 0", 0).dark(), NONE);
        due("promise 19: together, then half", with("burn 5", 11, 11).dark(), 1);
        due("promise 19: together, half is not less", with("burn 5", 10, 11).dark(), NONE);
        // The last night's OUT counts for nothing: one more night must pass.
        LastLight x = with("burn (f=0)*599", 599);
        x.nights(2);
        due("promise 19: from now on", x.dark(), 1);
        x.rule(1, 0);
        x.set(0, FEAR, 8);
        x.nights(1);
        due("promise 19: dark by a night to come", x.dark(), 1);
        x.set(0, FEAR, 0);
        due("promise 19: not by the night that was", x.dark(), NONE);
    }

    private static LastLight allSheets() {
        LastLight x = Edges.laden();
        x.sheet(3, 1, 1);
        return x;
    }

    private static void p20Bounds() {
        Edges.within("promise 20: wished by sheet", EdgesOfThoughtTest::allSheets, (x, v) -> x.wished(v, 0, 0), 0, 3, BAD);
        Edges.within("promise 20: wished of lodger", Edges::laden, (x, v) -> x.wished(0, v, 0), 0, 4, BAD);
        Edges.within("promise 20: wished what", Edges::laden, (x, v) -> x.wished(0, 0, v), 0, 1, BAD);
        Edges.refused("promise 20: a sheet is missing", Edges::laden, x -> x.wished(3, 0, 0), NOTHING);
        Edges.refused("promise 20: BAD lodger ahead of NOTHING", Edges::laden, x -> x.wished(3, 5, 0), BAD);
        Edges.refused("promise 20: BAD what ahead of NOTHING", Edges::laden, x -> x.wished(3, 0, 2), BAD);
        LastLight last = with("burn w", 7);
        last.sheet(3, 1, 1);
        last.mark(3, 0, 220);
        due("promise 20: the last sheet", last.wished(3, 0, 0), 220);
    }

    private static void p20Places() {
        LastLight x = with("burn w", 300, 7);
        x.sheet(0, 0, 0);
        due("promise 20: no places, the wish", x.wished(0, 0, 0), 0);
        due("promise 20: no places, no differences", x.wished(0, 0, 1), 0);
        x.sheet(1, 1, 24);
        for (int i = 0; i < 24; i++) {
            x.mark(1, i, NONE);
        }
        due("promise 20: no numbers, the wish", x.wished(1, 0, 0), 0);
        due("promise 20: no numbers, no differences", x.wished(1, 0, 1), 0);
        x.mark(1, 23, 143);
        due("promise 20: the last place", x.wished(1, 1, 0), 140);
        due("promise 20: the last place, differences", x.wished(1, 1, 1), 3);
        x.mark(1, 0, -99999);
        x.mark(1, 1, 99999);
        due("promise 20: the farthest numbers, differences", x.wished(1, 1, 1), 99999 + 99999 + 3);
        x.mark(0, 0, 1);
        x.sheet(2, 0, 2);
        x.mark(2, 0, -32768);
        x.mark(2, 1, 32767);
        due("promise 20: the farthest shorts, differences", x.wished(2, 1, 1), 32768 + 32767);
        due("promise 20: the farthest shorts, of all the least", x.wished(2, 1, 0), 0);
        nightsOfPlaces();
    }

    /** Place k is of the night k and 1: a night goes by for a place that is no number, too. */
    private static void nightsOfPlaces() {
        LastLight y = with("burn w-f", 7);
        y.sheet(0, 1, 4);
        int[] nights = {400, 380, 360, 340};
        for (int place = 0; place < 4; place++) {
            for (int i = 0; i < 4; i++) {
                y.mark(0, i, i == place ? nights[i] : NONE);
            }
            due("promise 20: place " + place + " alone", y.wished(0, 0, 0), 400);
            due("promise 20: place " + place + " alone, differences", y.wished(0, 0, 1), 0);
        }
    }

    private static void p20OfSeveralTheLeast() {
        LastLight x = with("burn w", 7);
        x.sheet(0, 1, 1);
        int[][] wishes = {{0, 0}, {9, 0}, {10, 0}, {11, 20}, {30, 20}, {31, 40}, {570, 560}, {571, 580}, {599, 580}, {99999, 580}, {-1, 0}, {-99999, 0}};
        for (int[] w : wishes) {
            x.mark(0, 0, w[0]);
            due("promise 20: wished by " + w[0], x.wished(0, 0, 0), w[1]);
            due("promise 20: differences by " + w[0], x.wished(0, 0, 1), Math.abs(w[0] - w[1]));
        }
        due("promise 20: the wish stays", x.told(0, WISH), 7);
    }

    private static void p21Fee() {
        LastLight x = new LastLight();
        x.rule(1, 99);
        due("promise 21: without a text, PRICE at most", x.fee(), 99);
        x.rule(1, 0);
        due("promise 21: without a text, PRICE at least", x.fee(), 0);
        Due.textOf(x, "fee 8192*8192*32");
        due("promise 21: it wraps, and is not held", x.fee(), Integer.MIN_VALUE);
        Due.textOf(x, "fee 8192*8192*32-1");
        due("promise 21: it wraps back", x.fee(), Integer.MAX_VALUE);
        Due.textOf(x, "fee p-n");
        due("promise 21: of the first night", x.fee(), 0);
        LastLight first = new LastLight();
        Due.textOf(first, "fee 77");
        due("promise 21: by the text that is number 0", first.fee(), 77);
        LastLight last = Edges.atNight(9999);
        Due.textOf(last, "fee n");
        due("promise 21: of the last night", last.fee(), 9999);
        Due.textOf(last, "burn 5");
        due("promise 21: a text of another key counts not", last.fee(), 9999);
    }

    private static void p22Fine() {
        Edges.within("promise 22: fine of lodger", Edges::laden, (x, v) -> x.fine(v), 0, 4, BAD);
        LastLight x = with("burn w", 100, 599);
        due("promise 22: without a text, nothing read", x.fine(1), 0);
        x.nights(1);
        due("promise 22: without a text, READ", x.fine(1), 599);
        Due.textOf(x, "fine 0-r");
        due("promise 22: below 0", x.fine(1), -599);
        Due.textOf(x, "fine c*9999*9999");
        due("promise 22: it wraps", x.fine(0), 499 * 9999 * 9999);
        due("promise 22: of the last", x.fine(1), 0);
        due("promise 22: of nobody, by a text", x.fine(2), BAD);
        LastLight first = new LastLight();
        first.lodger(0, 0, 100);
        Due.textOf(first, "fine 77");
        due("promise 22: by the text that is number 0", first.fine(0), 77);
    }
}
