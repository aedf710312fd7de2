/** Promises 37 to 41: rows and images. */
public final class ImagesTest {
    private static final int BAD = LastLight.BAD, NO = LastLight.NO, FULL = LastLight.FULL;

    public static void main(String[] args) {
        tell();
        checkRefused();
        check();
        checkIsByTheImage();
        checkAtTheLastNight();
        keepAndBack();
        whatAnImageKeepsNot();
        textsOfAnImage();
        count();
        Due.end();
    }

    private static void due(String call, long got, long want) { Due.due(call, got, want); }

    /** Two that burn 100 and 300 on one stair, each night 40 is paid. */
    private static LastLight two() {
        LastLight x = new LastLight();
        Due.textOf(x, "burn w");
        x.lodger(0, 0, 100);
        x.lodger(0, 0, 300);
        return x;
    }

    private static void told(LastLight x, int... numbers) {
        for (int v : numbers) {
            x.tell(v);
        }
    }

    private static void tell() {
        LastLight x = new LastLight();
        for (int i = 1; i <= 60; i++) {
            due("tell " + i, x.tell(-i), i);
        }
        due("tell 61", x.tell(0), FULL);
        due("60 wait", x.count(5), 60);
    }

    private static void checkRefused() {
        LastLight x = two();
        told(x, 1, 2);
        due("no image", x.check(1), NO);
        due("none wait", x.count(5), 0);
        told(x, 1, 2);
        due("bad ahead of no image", x.check(0), BAD);
        due("none wait again", x.count(5), 0);
        x.keep();
        told(x, 1);
        due("31", x.check(31), BAD);
        due("none wait still", x.count(5), 0);
        due("-1", x.check(-1), BAD);
    }

    private static void check() {
        LastLight x = two();
        x.keep();
        told(x, 400, -40, 400, -80);
        due("right", x.check(2), 0);
        due("none wait", x.count(5), 0);
        due("first missing", x.check(2), 1);
        told(x, 400, -40, 400, -80);
        due("two too many", x.check(1), 3);
        told(x, 400, -40, 400);
        due("one too many", x.check(1), 3);
        told(x, 400, -40, 400, -80);
        due("two missing", x.check(3), 5);
        told(x, 400, -40, 400);
        due("one missing", x.check(2), 4);
        told(x, 401, -40);
        due("first is not", x.check(1), 1);
        told(x, 400, -41);
        due("second is not", x.check(1), 2);
        told(x, 400, -40, 400, -40);
        due("fourth is not", x.check(2), 4);
        for (int i = 1; i <= 30; i++) {
            told(x, 400, -40 * i);
        }
        due("thirty", x.check(30), 0);
        due("nothing has changed", x.count(1), 0);
    }

    private static void checkIsByTheImage() {
        LastLight x = two();
        x.nights(3);
        x.keep();
        x.nights(5);
        Due.textOf(x, "burn 0");
        x.rule(1, 99);
        x.rule(0, 3);
        x.lodger(0, 1, 9);
        x.seed(77);
        told(x, 400, -160);
        due("by the image", x.check(1), 0);
        due("lodgers", x.count(0), 3);
        due("price", x.count(3), 99);
        due("z", x.count(7), 77);
    }

    private static void checkAtTheLastNight() {
        LastLight x = two();
        for (int i = 0; i < 99; i++) {
            x.nights(100);
        }
        x.nights(98);
        x.keep();
        told(x, 400, -40 * 9999);
        due("fewer", x.check(30), 0);
        told(x, 400, -40 * 9999, 400, -40 * 10000);
        due("too many then", x.check(2), 3);
        x.nights(1);
        x.keep();
        due("none to be told", x.check(1), 0);
        told(x, 400);
        due("one too many", x.check(1), 1);
    }

    private static void keepAndBack() {
        LastLight x = two();
        due("back of none", x.back(), NO);
        x.nights(2);
        x.rule(0, 2);
        x.rule(1, 20);
        x.set(1, 3, -5);
        due("keep", x.keep(), 2);
        int[] kept = state(x);
        for (int again = 0; again < 3; again++) {
            x.nights(7);
            x.rule(0, 3);
            x.rule(1, 1);
            x.deal(8);
            x.turns(0, 4);
            x.set(0, 1, 2);
            x.set(1, 2, 0);
            x.seed(12);
            Due.textOf(x, "burn 5");
            Due.textOf(x, "fine 6");
            due("back", x.back(), 2);
            int[] now = state(x);
            for (int i = 0; i < kept.length; i++) {
                due("state " + i, now[i], kept[i]);
            }
            due("burns", x.burns(1, 0), 300);
            due("why", x.why(2), LastLight.NONE);
        }
        due("new one", x.lodger(1, 2, 3), 2);
        int[] fresh = {1, 2, 3, 0, 0, 0, 0, 0, 0, 5};
        for (int what = 0; what < fresh.length; what++) {
            due("new one " + what, x.told(2, what), fresh[what]);
        }
        due("keep anew", x.keep(), 3);
        x.nights(1);
        due("back anew", x.back(), 3);
    }

    private static int[] state(LastLight x) {
        int[] all = new int[28];
        for (int i = 0; i < 20; i++) {
            all[i] = x.told(i / 10, i % 10);
        }
        for (int what = 0; what < 8; what++) {
            all[20 + what] = x.count(what);
        }
        return all;
    }

    private static void whatAnImageKeepsNot() {
        LastLight x = two();
        x.sheet(0, 0, 1);
        x.lay(0, 3, 10);
        x.keep();
        x.mark(0, 0, 9);
        x.sheet(1, 1, 2);
        x.lay(0, 3, 11);
        x.feed(1, 2, 3);
        x.tell(4);
        x.back();
        x.lay(1, 2, 0);
        due("sheet", x.item(1, 0), 9);
        due("sheet made since", x.mark(1, 1, 1), 1);
        due("slot", x.rest(0, 100), 11);
        due("tape", x.count(6), 12);
        due("waits", x.count(5), 1);
    }

    private static void textsOfAnImage() {
        LastLight x = two();
        Due.textOf(x, "fee 5");
        x.keep();
        Due.textOf(x, "fee 6");
        due("fee", x.fee(), 6);
        x.back();
        due("texts", x.count(4), 2);
        due("fee of the image", x.fee(), 5);
        due("no such text", x.textTold(2, 0), BAD);
        due("told anew", Due.textOf(x, "fine 1+1"), 2);
        due("fee still", x.fee(), 5);
        due("fine", x.fine(0), 2);
        x.back();
        due("fine of the image", x.fine(0), 0);
        for (int i = 2; i < 14; i++) {
            Due.textOf(x, "fee 7");
        }
        due("full", Due.textOf(x, "fee 7"), FULL);
        x.back();
        due("room again", Due.textOf(x, "fee 8"), 2);
    }

    private static void count() {
        LastLight x = two();
        x.nights(3);
        x.rule(0, 1);
        x.rule(1, 44);
        x.tell(9);
        x.feed(0, 0, 0);
        x.seed(-5);
        int[] counts = {2, 3, 1, 44, 1, 1, 12, -5};
        for (int what = 0; what < counts.length; what++) {
            due("count " + what, x.count(what), counts[what]);
        }
        due("count -1", x.count(-1), BAD);
        due("count 8", x.count(8), BAD);
    }
}
