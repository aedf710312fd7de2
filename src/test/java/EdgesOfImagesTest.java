/** Boundary cases of promises 37 to 41 and of the terms on AN IMAGE, each sentence by itself. */
public final class EdgesOfImagesTest {
    private static final int BAD = LastLight.BAD, NO = LastLight.NO, FULL = LastLight.FULL, NONE = LastLight.NONE;
    private static final int MIN = Integer.MIN_VALUE, MAX = Integer.MAX_VALUE;

    public static void main(String[] args) {
        p37Full();
        p37AnyNumber();
        p38Bounds();
        p38NoneWaitThen();
        p38NoImage();
        p38FirstThatIsNot();
        p38MissingOrTooMany();
        p38Thirty();
        p38LastNight();
        p38ByTheImage();
        p39HowMany();
        p39AllButWhatItKeepsNot();
        p40NoImage();
        p40AgainAndAgain();
        p40FullAndEmpty();
        p41Bounds();
        p41EmptyAndFull();
        Due.end();
    }

    private static void due(String call, long got, long want) { Due.due(call, got, want); }

    /** One that burns till 100 each night for 10 coins, kept. */
    private static LastLight kept(int night) {
        LastLight x = Edges.atNight(night);
        x.keep();
        return x;
    }

    private static void tell(LastLight x, int... numbers) {
        for (int v : numbers) {
            x.tell(v);
        }
    }

    private static int checked(int n, int... numbers) {
        LastLight x = kept(0);
        tell(x, numbers);
        int answer = x.check(n);
        due("promise 38: none wait then", x.count(5), 0);
        return answer;
    }

    private static LastLight waiting(int many) {
        LastLight x = kept(0);
        for (int i = 0; i < many; i++) {
            x.tell(i % 2 == 0 ? 100 : -5 * i - 5);
        }
        return x;
    }

    private static void p37Full() {
        LastLight x = new LastLight();
        for (int i = 1; i <= 60; i++) {
            due("promise 37: one more number waits", x.tell(i), i);
        }
        Edges.refused("promise 37: 60 wait", () -> waiting(60), y -> y.tell(1), FULL);
        Edges.refused("promise 37: 60 wait, again", () -> waiting(60), y -> y.tell(MIN), FULL);
        due("promise 37: 59 wait", waiting(59).tell(1), 60);
        x.check(1);
        due("promise 37: room again, when none wait", x.tell(1), 1);
        LastLight whole = waiting(60);
        whole.tell(7);
        due("promise 37: what was refused waits not", whole.check(30), 0);
    }

    private static void p37AnyNumber() {
        LastLight x = new LastLight();
        int[] any = {MIN, MAX, 0, -1, BAD, NONE};
        for (int i = 0; i < any.length; i++) {
            due("promise 37: the number " + any[i], x.tell(any[i]), i + 1);
        }
    }

    private static void p38Bounds() {
        Edges.within("promise 38: check n", Edges::house, (x, v) -> x.check(v), 1, 30, BAD);
        due("promise 38: one night", checked(1, 100, -10), 0);
    }

    private static void p38NoneWaitThen() {
        for (int n : new int[] {0, 31, -1, MIN, MAX}) {
            LastLight x = waiting(60);
            due("promise 38: BAD " + n, x.check(n), BAD);
            due("promise 38: none wait behind BAD " + n, x.count(5), 0);
            Edges.same("promise 38: BAD " + n + " changes nothing else", x, kept(0));
        }
        LastLight x = new LastLight();
        tell(x, 1, 2, 3);
        due("promise 38: NO", x.check(1), NO);
        due("promise 38: none wait behind NO", x.count(5), 0);
        LastLight y = waiting(4);
        due("promise 38: right", y.check(2), 0);
        due("promise 38: none wait behind 0", y.count(5), 0);
        Edges.same("promise 38: right changes nothing else", y, kept(0));
        due("promise 38: nor is it right again", y.check(2), 1);
        LastLight z = waiting(3);
        due("promise 38: not right", z.check(1), 3);
        due("promise 38: none wait behind 3", z.count(5), 0);
    }

    private static void p38NoImage() {
        Edges.refused("promise 38: there is no IMAGE", LastLight::new, x -> x.check(30), NO);
        Edges.refused("promise 38: BAD ahead of NO", LastLight::new, x -> x.check(0), BAD);
        Edges.refused("promise 38: BAD ahead of NO, above", LastLight::new, x -> x.check(31), BAD);
    }

    private static void p38FirstThatIsNot() {
        int[] right = {100, -10, 100, -20, 100, -30};
        due("promise 38: all right", checked(3, right), 0);
        for (int i = 0; i < right.length; i++) {
            for (int off : new int[] {-1, 1}) {
                int[] told = right.clone();
                told[i] += off;
                due("promise 38: number " + i + " is not, by " + off, checked(3, told), 1 + i);
                told[right.length - 1] = 7;
                due("promise 38: number " + i + " is the first that is not", checked(3, told), 1 + i);
            }
        }
    }

    private static void p38MissingOrTooMany() {
        for (int many = 0; many <= 8; many++) {
            for (int n = 1; n <= 4; n++) {
                int want = many == 2 * n ? 0 : 1 + Math.min(many, 2 * n);
                due("promise 38: " + many + " wait for " + n + " nights", waiting(many).check(n), want);
            }
        }
        due("promise 38: one too many, whatever it is", checked(1, 100, -10, NONE), 3);
        due("promise 38: one too many, and one is not", checked(1, 100, -11, 100), 2);
        due("promise 38: one missing, and one is not", checked(2, 99, -10, 100), 1);
    }

    private static void p38Thirty() {
        due("promise 38: all sixty", waiting(60).check(30), 0);
        due("promise 38: the sixtieth is missing", waiting(59).check(30), 60);
        due("promise 38: two too many", waiting(60).check(29), 59);
        LastLight x = waiting(59);
        x.tell(-301);
        due("promise 38: the sixtieth is not", x.check(30), 60);
    }

    private static void p38LastNight() {
        LastLight x = kept(9997);
        tell(x, 100, -99980, 100, -99990);
        due("promise 38: two nights up to 9999", x.check(2), 0);
        tell(x, 100, -99980, 100, -99990);
        due("promise 38: fewer than three, if THE NIGHT would be above 9999", x.check(3), 0);
        tell(x, 100, -99980, 100, -99990);
        due("promise 38: fewer than thirty", x.check(30), 0);
        tell(x, 100, -99980, 100, -99990, 100, -100000);
        due("promise 38: a night too many", x.check(3), 5);
        tell(x, 100, -99980);
        due("promise 38: the last night is missing", x.check(30), 3);
        LastLight y = kept(9999);
        due("promise 38: no nights to be told", y.check(1), 0);
        due("promise 38: no nights to be told, of thirty", y.check(30), 0);
        tell(y, 100);
        due("promise 38: one too many of none", y.check(1), 1);
        due("promise 38: BAD at 9999 too", y.check(0), BAD);
        LastLight z = kept(9998);
        z.nights(1);
        tell(z, 100, -99990);
        due("promise 38: by the night of the image, not by now", z.check(1), 0);
        LastLight w = Edges.atNight(9970);
        w.keep();
        for (int i = 1; i <= 29; i++) {
            tell(w, 100, -99700 - 10 * i);
        }
        due("promise 38: just 29 of thirty", w.check(30), 0);
    }

    private static void p38ByTheImage() {
        LastLight x = waiting(2);
        x.lodger(0, 0, 599);
        x.rule(1, 99);
        x.rule(0, 3);
        x.seed(77);
        Due.textOf(x, "burn 0");
        x.set(0, 2, 7);
        x.nights(5);
        int z = x.count(7);
        due("promise 38: by THE IMAGE, not by now", x.check(1), 0);
        due("promise 38: now is as it was, z", x.count(7), z);
        due("promise 38: now is as it was, THE NIGHT", x.count(1), 5);
        LastLight none = new LastLight();
        none.keep();
        tell(none, 0, 0, 0, 0);
        due("promise 38: nobody in the image", none.check(2), 0);
        LastLight ten = Edges.with("burn w", 1, 2, 3, 4, 5, 6, 7, 8, 9, 55);
        ten.keep();
        tell(ten, 100, -10, 100, -20);
        due("promise 38: ten in the image", ten.check(2), 0);
        LastLight y = Edges.with("burn w", 100, 300);
        y.keep();
        tell(y, 400, -40, 400, -80);
        due("promise 38: PURSES behind each, of all together", y.check(2), 0);
    }

    private static void p39HowMany() {
        for (int many = 0; many <= 10; many++) {
            LastLight x = new LastLight();
            for (int i = 0; i < many; i++) {
                x.lodger(0, 0, 0);
            }
            due("promise 39: how many LODGERS, " + many, x.keep(), many);
            due("promise 39: again", x.keep(), many);
        }
        LastLight x = Edges.laden();
        x.keep();
        int[] before = {5, 5, 2, 44, 3, 2, 9};
        for (int what = 0; what < before.length; what++) {
            due("promise 39: it changes nothing, count " + what, x.count(what), before[what]);
        }
    }

    private static void p39AllButWhatItKeepsNot() {
        LastLight x = new LastLight();
        x.sheet(0, 0, 1);
        x.mark(0, 0, 5);
        x.lay(0, 3, 50);
        x.keep();
        x.mark(0, 0, 6);
        x.sheet(1, 1, 2);
        x.lay(0, 3, 60);
        x.feed(1, 2, 3);
        x.tell(4);
        x.tell(5);
        x.back();
        due("promise 39: numbers that wait are as they are", x.count(5), 2);
        due("promise 39: THE TAPE is as it is", x.count(6), 12);
        due("promise 39: a SLOT is as it is", x.rest(0, 1000), 60);
        x.lay(1, 2, 0);
        due("promise 39: a SHEET is as it is", x.item(1, 0), 6);
        due("promise 39: a SHEET made since is there", x.reads(1), 0);
    }

    private static void p40NoImage() {
        Edges.refused("promise 40: there is none", LastLight::new, x -> x.back(), NO);
        LastLight x = Edges.with("burn w", 100);
        due("promise 40: none of a house with one", x.back(), NO);
        due("promise 40: it is there still", x.count(0), 1);
    }

    private static void p40AgainAndAgain() {
        LastLight x = Edges.laden();
        for (int i = 0; i < 4; i++) {
            due("promise 40: as THE IMAGE", x.back(), 4);
            int[] counts = {4, 3, 1, 33, 2, 2, 9};
            for (int what = 0; what < counts.length; what++) {
                due("promise 40: count " + what + ", time " + i, x.count(what), counts[what]);
            }
            due("promise 40: KIND", x.told(0, 0), 1);
            due("promise 40: no fine", x.why(2), NONE);
            x.deal(10);
            x.rule(0, 3);
            x.rule(1, 1);
            x.turns(0, 5);
            x.seed(i);
            x.nights(7);
        }
        LastLight y = Edges.with("burn w", 100);
        y.keep();
        y.nights(1);
        y.keep();
        y.nights(1);
        y.back();
        due("promise 40: the last image counts", y.count(1), 1);
    }

    private static void p40FullAndEmpty() {
        LastLight x = new LastLight();
        x.keep();
        x.deal(10);
        due("promise 40: to nobody", x.back(), 0);
        due("promise 40: nobody is told", x.told(0, 0), BAD);
        due("promise 40: room for ten again", x.deal(10), 10);
        x.keep();
        due("promise 40: to ten", x.back(), 10);
        due("promise 40: no room", x.lodger(0, 0, 0), FULL);
        LastLight last = Edges.atNight(9998);
        last.keep();
        last.nights(1);
        due("promise 40: no more nights", last.nights(1), 0);
        last.back();
        due("promise 40: a night again", last.nights(1), 10);
    }

    private static void p41Bounds() {
        Edges.within("promise 41: count", Edges::laden, (x, v) -> x.count(v), 0, 7, BAD);
        LastLight x = Edges.laden();
        int[] counts = {5, 5, 2, 44, 3, 2, 9};
        for (int what = 0; what < counts.length; what++) {
            due("promise 41: count " + what, x.count(what), counts[what]);
        }
        x.seed(-8);
        due("promise 41: z", x.count(7), -8);
    }

    private static void p41EmptyAndFull() {
        LastLight x = new LastLight();
        int[] first = {0, 0, 0, 10, 0, 0, 0, 1};
        for (int what = 0; what < first.length; what++) {
            due("promise 41: at first, count " + what, x.count(what), first[what]);
        }
        x.deal(10);
        x.rule(0, 3);
        x.rule(1, 99);
        for (int i = 0; i < 14; i++) {
            Due.textOf(x, "fee 1");
        }
        for (int i = 0; i < 60; i++) {
            x.tell(i);
        }
        for (int i = 0; i < 8; i++) {
            x.feed(i, i, i);
        }
        for (int i = 0; i < 100; i++) {
            x.nights(100);
        }
        x.seed(MIN);
        int[] most = {10, 9999, 3, 99, 14, 60, 96, MIN};
        for (int what = 0; what < most.length; what++) {
            due("promise 41: at most, count " + what, x.count(what), most[what]);
        }
    }
}
