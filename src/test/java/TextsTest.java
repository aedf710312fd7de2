/** Promises 23 to 27: texts. */
public final class TextsTest {
    private static final int BAD = LastLight.BAD, FULL = LastLight.FULL, NONE = LastLight.NONE;

    public static void main(String[] args) {
        feedAndTrim();
        bytesOfTheTape();
        faults();
        nesting();
        values();
        blanks();
        usedUp();
        fourteen();
        textTold();
        why();
        Due.end();
    }

    private static void due(String call, long got, long want) { Due.due(call, got, want); }

    private static void feedAndTrim() {
        LastLight x = new LastLight();
        for (int i = 1; i <= 8; i++) {
            due("feed " + i, x.feed(-1, 0, i), 12 * i);
        }
        due("feed 9", x.feed(1, 2, 3), FULL);
        due("bytes", x.count(6), 96);
        due("trim 97", x.trim(97), BAD);
        due("trim -1", x.trim(-1), BAD);
        due("trim 85", x.trim(85), 85);
        due("feed beyond", x.feed(1, 2, 3), FULL);
        due("bytes still", x.count(6), 85);
        due("trim 84", x.trim(84), 84);
        due("feed to the end", x.feed(1, 2, 3), 96);
        due("trim 96", x.trim(96), 96);
        due("trim 0", x.trim(0), 0);
        due("trim 0 of 0", x.trim(0), 0);
        due("trim 1 of 0", x.trim(1), BAD);
        due("no bytes", x.count(6), 0);
    }

    private static void bytesOfTheTape() {
        LastLight x = new LastLight();
        x.feed(('f' << 24) | ('e' << 16) | ('e' << 8) | ' ', ('1' << 24) | ('2' << 16) | ('*' << 8) | '3', ('+' << 24) | ('4' << 16) | ('-' << 8) | '5');
        due("text", x.text(), 0);
        due("highest byte first", x.fee(), 35);
        x.feed(('f' << 24) | ('e' << 16) | ('e' << 8) | ' ', ('1' << 24) | (200 << 16), 0);
        due("a byte above 127 is a sign", x.text(), -105);
    }

    private static void fault(String text, int place) {
        LastLight x = new LastLight();
        due("text of '" + text + "'", Due.textOf(x, text), -100 - place);
        due("no texts", x.count(4), 0);
    }

    private static void faults() {
        fault("", 0);
        fault("   ", 3);
        fault("bur", 0);
        fault("  burnw", 2);
        fault("Burn w", 0);
        fault("turn w", 0);
        fault("gee 1", 0);
        fault("mine r", 0);
        fault("fina r", 0);
        fault("fee na", 4);
        fault("fee nz", 4);
        fault("fee an", 4);
        fault("fee zn", 4);
        fault("fee n`", 5);
        fault("fee n{", 5);
        fault("fee 1:", 5);
        fault("fee 9/", 6);
        fault("fee 90909", 4);
        fault("5", 0);
        fault("(w)", 0);
        fault("fee", 3);
        fault("fee  ", 5);
        fault("fee5", 3);
        fault("fee 5n", 5);
        fault("fee n5", 5);
        fault("fee 12345", 4);
        fault("fee 00001", 4);
        fault("fee 1 1", 6);
        fault("fee n n", 6);
        fault("fee fee 1", 4);
        fault("fee w", 4);
        fault("fee r", 4);
        fault("fine n", 5);
        fault("fine p", 5);
        fault("burn r", 5);
        fault("burn c", 5);
        fault("burn wf", 5);
        fault("burn w +", 8);
        fault("burn w +  ", 10);
        fault("burn w + * f", 9);
        fault("burn + w", 5);
        fault("burn -1", 5);
        fault("burn w<f<x", 8);
        fault("burn w=f>x", 8);
        fault("burn (w<f)<x<1", 12);
        fault("burn w f<x", 7);
        fault("burn (w", 7);
        fault("burn (w+", 8);
        fault("burn ()", 6);
        fault("burn (w f)", 8);
        fault("burn w)", 6);
        fault("burn (w))", 8);
        fault("burn w!", 6);
        fault("burn !", 6);
        fault("burn !+w", 6);
        fault("burn w % f", 7);
        fault("burn w\tf", 6);
        fault("burn w||f", 7);
        fault("burn w&&f", 7);
        fault("burn w (f)", 7);
        fault("burn W", 5);
        fault("burn w, f", 6);
    }

    private static void nesting() {
        LastLight x = new LastLight();
        x.lodger(0, 0, 0);
        due("eight (", Due.textOf(x, "fine ((((((((7))))))))"), 0);
        due("its value", x.fine(0), 7);
        fault("fine (((((((((7)))))))))", 13);
        due("nine ( but not within others", Due.textOf(x, "fine ((((((((7))))))))+(1)"), 1);
        due("eight !", Due.textOf(x, "fine !!!!!!!!7"), 2);
        due("its value", x.fine(0), 1);
        fault("fine !!!!!!!!!7", 13);
        due("eight of each", Due.textOf(x, "fine !(!(!(!(!(!(!(!(0))))))))"), 3);
        due("its value", x.fine(0), 0);
        fault("fine !(!(!(!(!(!(!(!(!0))))))))", 21);
        fault("fine !(!(!(!(!(!(!(!((0)))))))))", 21);
        due("nine ! but not within others", Due.textOf(x, "fine !!!!!!!!7+!0"), 4);
        due("its value", x.fine(0), 2);
        due("( within ( ended", Due.textOf(x, "fine (((((((1)+(2))))))+((((3)))))"), 5);
        due("its value", x.fine(0), 6);
        due("an open ! holds what is in brackets", Due.textOf(x, "fine !(1)+1"), 6);
        due("! is of a piece alone", x.fine(0), 1);
    }

    private static void value(String text, int want) {
        LastLight x = new LastLight();
        x.rule(1, 7);
        x.nights(20);
        due("text of '" + text + "'", Due.textOf(x, "fee " + text), 0);
        due("value of '" + text + "'", x.fee(), want);
    }

    private static void values() {
        value("n", 20);
        value("p", 7);
        value("9999", 9999);
        value("0007", 7);
        value("1+2*3", 7);
        value("(1+2)*3", 9);
        value("10-3-2", 5);
        value("100/7/2", 7);
        value("100/(7/2)", 33);
        value("0-7/2", -3);
        value("(0-7)/2", -3);
        value("7/0", 0);
        value("0/0", 0);
        value("2*3/4", 1);
        value("2-5*3", -13);
        value("9999*9999*9999", 9999 * 9999 * 9999);
        value("n<p", 0);
        value("n>p", 1);
        value("n=20", 1);
        value("n<20", 0);
        value("n>20", 0);
        value("1+1=2", 1);
        value("2=1+1&3", 1);
        value("5&7", 1);
        value("5|0", 1);
        value("0|0", 0);
        value("5&0", 0);
        value("1|0&0", 1);
        value("(1|0)&0", 0);
        value("1|1&0|0", 1);
        value("0-1&1", 1);
        value("!0", 1);
        value("!5", 0);
        value("!!5", 1);
        value("!5+3", 3);
        value("!(5-5)*4", 4);
        value("!n=p", 0);
        value("3>2", 1);
        value("(3>2)>1", 0);
        value("n*(n>p)+p*(p>n)", 20);
        value("1<2&3<4|9", 1);
        value("0&1/0", 0);
    }

    private static void blanks() {
        value("n+p", 27);
        value("  n  +  p  ", 27);
        value("( n + p ) * ! 0", 27);
        LastLight x = new LastLight();
        due("blanks at the ends", Due.textOf(x, "   fee 3  "), 0);
        due("no blank ahead of a sign", Due.textOf(x, "fee(3)"), 1);
        due("nor of a !", Due.textOf(x, "fee!3"), 2);
        String most = "fee n" + "+1".repeat(45) + " ";
        due("96 bytes", Due.textOf(x, most), 3);
        due("all of them", x.fee(), 45);
        due("pieces", x.textTold(3, 1), 46);
        due("96 bytes, a word at the end", Due.textOf(x, "fee  n" + "+1".repeat(45)), 4);
        Due.onTape(x, "fee 1234");
        x.trim(5);
        due("what is trimmed is gone", x.text(), 5);
        due("1", x.fee(), 1);
        due("cut off by the end of the tape", Due.textOf(x, "fee 1|1&1<1+1*(1|1&1<1+1*(1|1&1<1+1*(1|1&1<1+1*(1|1&1<1+1*(1|1&1<1+1*(1|1&1<1+1*(1|1&1+1*1)))))))"), -100 - 96);
        due("tape used up", x.count(6), 0);
        String deep = "1|1&0<2+3*4";
        for (int i = 0; i < 6; i++) {
            deep = "1|1&0<2+3*(" + deep + ")";
        }
        due("deep", Due.textOf(x, "fee " + deep), 6);
        due("deep value", x.fee(), 1);
    }

    private static void usedUp() {
        LastLight x = new LastLight();
        Due.onTape(x, "fee 1 1");
        x.text();
        due("used up by a fault", x.count(6), 0);
        Due.onTape(x, "fee 11");
        x.text();
        due("used up by a text", x.count(6), 0);
        due("empty", x.text(), -100);
    }

    private static void fourteen() {
        LastLight x = new LastLight();
        for (int i = 0; i < 14; i++) {
            due("text " + i, Due.textOf(x, "fee " + i), i);
        }
        due("text 15", Due.textOf(x, "fee 99"), FULL);
        due("used up all the same", x.count(6), 0);
        due("fault ahead of full", Due.textOf(x, "fee ?"), -104);
        due("texts", x.count(4), 14);
        due("the last one counts", x.fee(), 13);
    }

    private static void textTold() {
        LastLight x = new LastLight();
        due("none", x.textTold(0, 0), BAD);
        Due.textOf(x, "burn (w)+f*x-!12");
        Due.textOf(x, "fee 1");
        Due.textOf(x, "fine r<c");
        int[] pieces = {4, 1, 2};
        for (int i = 0; i < 3; i++) {
            due("key " + i, x.textTold(i, 0), i);
            due("pieces " + i, x.textTold(i, 1), pieces[i]);
        }
        due("what 2", x.textTold(0, 2), BAD);
        due("what -1", x.textTold(0, -1), BAD);
        due("text 3", x.textTold(3, 0), BAD);
        due("text -1", x.textTold(-1, 0), BAD);
    }

    private static void why() {
        LastLight x = new LastLight();
        due("why -1", x.why(-1), BAD);
        due("why 3", x.why(3), BAD);
        Due.textOf(x, "fee 1");
        due("why fee", x.why(1), 0);
        due("why burn", x.why(0), NONE);
        Due.textOf(x, "fine 2");
        Due.textOf(x, "fee 3");
        due("why fee then", x.why(1), 2);
        due("why fine", x.why(2), 1);
        Due.textOf(x, "fee +");
        due("a fault counts for nothing", x.why(1), 2);
    }
}
