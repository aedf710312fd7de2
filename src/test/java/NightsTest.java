/** Promises 11 to 13: nights, house, longest. By "burn w" one burns just till its wish. */
public final class NightsTest {
    private static final int BAD = LastLight.BAD, NONE = LastLight.NONE;

    public static void main(String[] args) {
        drawsOfANight();
        lawOfTheLast();
        lawOfAll();
        lawOfTheSecond();
        lawByLot();
        whatKindsLearn();
        whoPaysNothing();
        chinks();
        boundOfNights();
        house();
        longest();
        Due.end();
    }

    private static void due(String call, long got, long want) { Due.due(call, got, want); }

    private static int draw(int z) { return z * 1103515245 + 12345; }

    /** Lodgers with these wishes, all on stair 0, that burn till their wish. */
    private static LastLight with(int... wishes) {
        LastLight x = new LastLight();
        Due.textOf(x, "burn w");
        for (int wish : wishes) {
            x.lodger(0, 0, wish);
        }
        return x;
    }

    private static void told(LastLight x, String name, int what, int... wants) {
        for (int i = 0; i < wants.length; i++) {
            due(name + " of " + i, x.told(i, what), wants[i]);
        }
    }

    private static void drawsOfANight() {
        LastLight x = new LastLight();
        x.lodger(0, 2, 100);
        x.lodger(5, 0, 100);
        x.lodger(2, 2, 100);
        int a = draw(1), b = draw(a), c = draw(b);
        int first = 100 + (a >>> 8) % 60, third = (100 + (c >>> 8) % 60) / 2;
        due("paid", x.nights(1), 10 * (first + third) / 100);
        told(x, "out", 5, first, 0, third);
        told(x, "read", 7, first, 0, third);
        due("z", x.count(7), c);
        due("night", x.count(1), 1);
        x.nights(1);
        due("read is more", x.told(1, 7), 0);
        due("read is out more", x.told(2, 7), third + x.told(2, 5));
        due("nights 0", x.nights(0), BAD);
        due("nights 101", x.nights(101), BAD);
        due("nights -1", x.nights(-1), BAD);
        due("two nights", x.count(1), 2);
    }

    private static void lawOfTheLast() {
        LastLight x = with(300, 200, 300);
        due("cost", x.nights(1), 80);
        told(x, "purse", 6, 0, 0, -80);
        told(x, "fear", 4, 0, 0, 20);
        x.set(0, 3, 1);
        x.nights(1);
        told(x, "purse by clock", 6, -80, 0, -80);
        told(x, "fear by clock", 4, 20, 0, 16);
        x.set(0, 3, -60);
        x.set(2, 3, -60);
        x.set(1, 3, 39);
        x.nights(1);
        told(x, "purse below", 6, -80, 0, -160);
        x.set(1, 3, 41);
        x.nights(1);
        told(x, "purse above", 6, -80, -80, -160);
        LastLight y = new LastLight();
        Due.textOf(y, "burn w");
        y.lodger(0, 2, 105);
        y.lodger(0, 1, 105);
        y.lodger(0, 1, 3);
        due("each stair cuts by itself", y.nights(1), 20);
        told(y, "purse by stairs", 6, -10, -10, 0);
    }

    private static void lawOfAll() {
        LastLight x = with(300, 200, 300);
        x.rule(0, 1);
        due("cost", x.nights(1), 80);
        told(x, "purse", 6, -26, -26, -28);
        told(x, "fear", 4, 20, 20, 20);
        x.set(1, 3, 60);
        x.set(0, 3, -60);
        x.set(2, 3, -60);
        x.nights(1);
        told(x, "left over", 6, -52, -54, -54);
        LastLight y = with(50, 50);
        y.rule(0, 1);
        y.rule(1, 1);
        due("cost 1", y.nights(1), 1);
        told(y, "purse of 1", 6, 0, -1);
        told(y, "all paid, whatever their part", 4, 20, 20);
        y.rule(1, 0);
        y.nights(1);
        told(y, "none paid", 4, 16, 16);
    }

    private static void lawOfTheSecond() {
        LastLight x = with(300, 200, 300, 300);
        x.rule(0, 2);
        x.nights(1);
        told(x, "purse", 6, 0, 0, -110, 0);
        x.set(3, 3, -10);
        x.nights(1);
        told(x, "purse by clock", 6, -110, 0, -110, 0);
        LastLight y = with(400);
        y.rule(0, 2);
        y.nights(1);
        told(y, "alone", 6, -40);
        told(y, "alone learns", 4, 20);
    }

    private static void lawByLot() {
        LastLight x = new LastLight();
        Due.textOf(x, "burn w");
        for (int l = 0; l < 5; l++) {
            x.lodger(0, l < 2 ? 2 : 0, 200);
        }
        x.rule(0, 3);
        int z = 1;
        int[] purse = new int[5];
        for (int night = 0; night < 12; night++) {
            for (int l = 0; l < 5; l++) {
                z = draw(z);
            }
            z = draw(z);
            purse[2 + (z >>> 8) % 3] -= 60;
            z = draw(z);
            purse[(z >>> 8) % 2] -= 40;
            due("by lot", x.nights(1), 100);
            told(x, "purse", 6, purse);
        }
        x.rule(1, 0);
        x.nights(1);
        for (int i = 0; i < 7; i++) {
            z = draw(z);
        }
        due("a draw, though nothing costs", x.count(7), z);
        LastLight y = with(200);
        y.rule(0, 3);
        y.nights(1);
        due("a draw for one alone", y.count(7), draw(draw(1)));
        told(y, "purse alone", 6, -20);
    }

    private static void whatKindsLearn() {
        int[] paid = {20, 5, 20, 5, 0, 0};
        int[] spared = {-4, -4, -4, -1, -4, -4};
        for (int kind = 0; kind < 6; kind++) {
            LastLight x = with(300);
            x.turns(0, kind);
            x.set(0, 4, 100);
            x.nights(1);
            due("learns paid " + kind, x.told(0, 4), kind == 5 ? 96 : 100 + paid[kind]);
            x.set(0, 4, 100);
            x.rule(1, 0);
            x.nights(1);
            due("learns spared " + kind, x.told(0, 4), 100 + spared[kind]);
            x.set(0, 4, 2);
            x.nights(1);
            due("fear from 0 on " + kind, x.told(0, 4), Math.max(0, 2 + spared[kind]));
            x.rule(1, 99);
            x.set(0, 4, 299);
            x.nights(1);
            due("fear up to 300 " + kind, x.told(0, 4), kind == 5 ? 295 : Math.min(300, 299 + paid[kind]));
        }
        LastLight y = with(300, 0);
        y.turns(1, 5);
        y.rule(0, 1);
        y.nights(1);
        due("BLIND learns as LODGER", y.told(1, 4), 20);
    }

    private static void whoPaysNothing() {
        LastLight x = with(9);
        x.set(0, 4, 50);
        for (int law = 0; law < 4; law++) {
            x.rule(0, law);
            due("nothing to pay", x.nights(1), 0);
            due("did not pay", x.told(0, 4), 46 - 4 * law);
        }
    }

    private static void chinks() {
        LastLight x = with(100, 400, 250, 300);
        x.set(2, 1, 1);
        x.set(3, 3, 60);
        x.nights(1);
        told(x, "chink", 8, 300, 0, 0, 0);
        x.set(2, 1, 0);
        x.nights(1);
        told(x, "chink round", 8, 600, 0, 50, 0);
        x.set(0, 2, 500);
        x.nights(1);
        told(x, "chink of the last", 8, 600, 0, 100, 200);
        due("all chinks", x.house(3), 900);
    }

    private static void boundOfNights() {
        LastLight x = with(100);
        int paid = 0;
        for (int i = 0; i < 99; i++) {
            paid += x.nights(100);
        }
        due("paid", paid, 99000);
        due("night", x.count(1), 9900);
        due("the last nights", x.nights(100), 990);
        due("last night", x.count(1), 9999);
        int z = x.count(7);
        due("no more", x.nights(1), 0);
        due("no draws", x.count(7), z);
        due("still", x.count(1), 9999);
        due("thought goes on", x.behind(100, 1), -99990 - 1000);
    }

    private static void house() {
        LastLight x = with(100, 200, 300);
        x.set(1, 1, 2);
        x.nights(2);
        int[] all = {600, -120, 1200, 400, 5, 0, 2};
        for (int what = 0; what < all.length; what++) {
            due("house " + what, x.house(what), all[what]);
        }
        due("house -1", x.house(-1), BAD);
        due("house 7", x.house(7), BAD);
    }

    private static void longest() {
        due("longest of none", new LastLight().longest(), NONE);
        LastLight x = with(100, 300, 300, 200);
        due("longest before", x.longest(), 0);
        x.set(3, 3, 60);
        x.nights(1);
        due("longest", x.longest(), 1);
        x.set(1, 2, 0);
        due("of the last night", x.longest(), 1);
        x.nights(1);
        due("longest now", x.longest(), 2);
    }
}
