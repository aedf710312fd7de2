/** Boundary cases of promises 23 to 27 and of the terms on TEXTS, each sentence by itself. */
public final class EdgesOfTextsTest {
    private static final int BAD = LastLight.BAD, FULL = LastLight.FULL, NONE = LastLight.NONE;
    private static final int MIN = Integer.MIN_VALUE, MAX = Integer.MAX_VALUE;

    public static void main(String[] args) {
        p23Full();
        p23Bytes();
        p24Bounds();
        p24WhatIsKept();
        p25UsedUp();
        p25FourteenAtMost();
        p25WholeTape();
        p25Keys();
        p25Numbers();
        p25Names();
        p25Words();
        p25Blanks();
        p25Brackets();
        p25Nots();
        p25Tests();
        p25Signs();
        p25EndTooSoon();
        p25FirstFault();
        p25BehindAFault();
        p25Values();
        p25Wraps();
        p25DividedByNothing();
        p26Bounds();
        p26Pieces();
        p27Bounds();
        p27ToldLast();
        Due.end();
    }

    private static void due(String call, long got, long want) { Due.due(call, got, want); }

    private static void fault(String why, String text, int place) {
        LastLight x = new LastLight();
        Due.onTape(x, text);
        due("promise 25: " + why + ", '" + text + "'", x.text(), -100 - place);
        due("promise 25: " + why + ", '" + text + "', no text", x.count(4), 0);
        due("promise 25: " + why + ", '" + text + "', used up", x.count(6), 0);
    }

    private static void good(String why, String text) {
        LastLight x = new LastLight();
        Due.onTape(x, text);
        due("promise 25: " + why + ", '" + text + "'", x.text(), 0);
        due("promise 25: " + why + ", '" + text + "', one text", x.count(4), 1);
        due("promise 25: " + why + ", '" + text + "', used up", x.count(6), 0);
    }

    /** What a text gives at night 20 for a price of 7. */
    private static void gives(String why, String text, int want) {
        LastLight x = new LastLight();
        x.rule(1, 7);
        x.nights(20);
        due("promise 25: " + why + ", 'fee " + text + "'", Due.textOf(x, "fee " + text), 0);
        due("promise 25: " + why + ", 'fee " + text + "' gives", x.fee(), want);
    }

    private static LastLight tape(int bytes) {
        LastLight x = new LastLight();
        Due.onTape(x, ("fee " + "1+".repeat(46)).substring(0, bytes));
        return x;
    }

    private static void p23Full() {
        LastLight x = new LastLight();
        for (int i = 1; i <= 8; i++) {
            due("promise 23: twelve bytes more", x.feed(i, i, i), 12 * i);
        }
        due("promise 23: 96 at most", x.feed(0, 0, 0), FULL);
        due("promise 23: 96 bytes", x.count(6), 96);
        due("promise 23: up to 96 just", tape(84).feed(1, 2, 3), 96);
        for (int bytes : new int[] {85, 95, 96}) {
            Edges.refused("promise 23: it would have more than 96, from " + bytes, () -> tape(bytes), y -> y.feed(MAX, MIN, 0), FULL);
        }
        LastLight full = tape(96);
        full.text();
        due("promise 23: room again, when it is used up", full.feed(1, 2, 3), 12);
    }

    private static void p23Bytes() {
        LastLight x = new LastLight();
        x.feed(0x66656520, 0x31322A33, 0x2B342D35);
        due("promise 23: the highest byte of each first", x.text(), 0);
        due("promise 23: 'fee 12*3+4-5' gives", x.fee(), 35);
        LastLight y = new LastLight();
        y.feed(0x66656520, 0x31202020, 0x202020A0);
        due("promise 23: a byte above 127 is a byte", y.text(), -100 - 11);
        LastLight z = new LastLight();
        z.feed(0xE6E5E520, 0x31202020, 0x20202020);
        due("promise 23: all eight bits of it", z.text(), -100);
        LastLight zero = new LastLight();
        zero.feed(0x66656520, 0x31000000, 0);
        due("promise 23: byte 0 is a byte", zero.text(), -105);
    }

    private static void p24Bounds() {
        Edges.within("promise 24: trim a tape of nine", Edges::laden, (x, v) -> x.trim(v), 0, 9, BAD);
        Edges.within("promise 24: trim an empty tape", Edges::house, (x, v) -> x.trim(v), 0, 0, BAD);
        Edges.within("promise 24: trim a full tape", () -> tape(96), (x, v) -> x.trim(v), 0, 96, BAD);
        Edges.onlyTold("promise 24: all of it", Edges::laden, x -> x.trim(9), 9);
        Edges.onlyTold("promise 24: nothing of nothing", Edges::house, x -> x.trim(0), 0);
    }

    private static void p24WhatIsKept() {
        LastLight x = new LastLight();
        Due.onTape(x, "fee 1234");
        due("promise 24: the first 5", x.trim(5), 5);
        due("promise 24: five bytes", x.count(6), 5);
        due("promise 24: no way back", x.trim(6), BAD);
        x.feed(0x39202020, 0x20202020, 0x20202020);
        due("promise 24: fed behind them", x.count(6), 17);
        x.text();
        due("promise 24: 'fee 19'", x.fee(), 19);
    }

    private static void p25UsedUp() {
        Edges.onlyTold("promise 25: an empty tape", Edges::house, x -> x.text(), -100);
        LastLight x = Edges.laden();
        x.trim(8);
        due("promise 25: a fault", x.text(), -108);
        LastLight y = Edges.laden();
        y.trim(0);
        Edges.same("promise 25: a fault changes nothing but the tape", x, y);
    }

    private static LastLight texts(int many) {
        LastLight x = new LastLight();
        for (int i = 0; i < many; i++) {
            Due.textOf(x, "fee " + i);
        }
        return x;
    }

    private static void p25FourteenAtMost() {
        for (int many = 0; many < 14; many++) {
            due("promise 25: numbered from 0", Due.textOf(texts(many), "fine r"), many);
        }
        LastLight x = texts(14);
        Due.onTape(x, "fee 99");
        due("promise 25: the fifteenth", x.text(), FULL);
        due("promise 25: the tape is used up by FULL too", x.count(6), 0);
        Edges.same("promise 25: FULL changes nothing but the tape", x, texts(14));
        LastLight y = texts(14);
        Due.onTape(y, "fee 99+");
        due("promise 25: a fault stands ahead of FULL", y.text(), -107);
        Edges.same("promise 25: a fault of a fifteenth changes nothing", y, texts(14));
        LastLight z = texts(13);
        z.keep();
        due("promise 25: the fourteenth", Due.textOf(z, "fee 99"), 13);
        due("promise 25: full", Due.textOf(z, "fee 98"), FULL);
        z.back();
        due("promise 25: room again by an image", Due.textOf(z, "fee 97"), 13);
        due("promise 25: its value", z.fee(), 97);
        LastLight shorter = new LastLight();
        shorter.keep();
        Due.textOf(shorter, "fee !1");
        shorter.back();
        due("promise 25: a shorter one by the number of one that is gone", Due.textOf(shorter, "fee 5"), 0);
        due("promise 25: nothing is left of that one", shorter.fee(), 5);
        due("promise 25: nor of what it had", shorter.textTold(0, 1), 1);
    }

    private static void p25WholeTape() {
        String most = "fee n" + "+1".repeat(45) + " ";
        good("96 bytes, a blank at the end", most);
        good("96 bytes, a word at the end", "fee  n" + "+1".repeat(45));
        fault("96 bytes, the last one too soon", "fee 1" + "+1".repeat(45) + "+", 96);
        fault("96 bytes, the last one is the fault", "fee 1" + "+1".repeat(45) + ")", 95);
        fault("96 blanks", " ".repeat(96), 96);
        good("96 bytes, blanks most of them", " ".repeat(91) + "fee 1");
        fault("a number that ends with the tape", " ".repeat(90) + "fee 1n", 95);
        good("four digits at the end", " ".repeat(88) + "fee 1234");
        fault("five digits at the end", " ".repeat(87) + "fee 12345", 91);
    }

    private static void p25Keys() {
        good("KEY burn", "burn 1");
        good("KEY fee", "fee 1");
        good("KEY fine", "fine 1");
        for (String word : new String[] {"bur", "burns", "bern", "turn", "gee", "mine", "fina", "urn", "fe", "fees", "fea", "fin", "fines", "fire", "f", "n", "w", "x", "a", "z"}) {
            fault("no KEY", word + " 1", 0);
        }
        fault("a KEY in capitals", "FEE 1", 0);
        fault("a KEY in one capital", "feE 1", 0);
        fault("a NUMBER as KEY", "1 1", 0);
        fault("a sign as KEY", "(fee 1)", 0);
        fault("no KEY behind blanks", "   1", 3);
        fault("a KEY alone", "fee", 3);
        fault("a KEY behind a KEY", "fee fee 1", 4);
        fault("a KEY as PIECE", "fee 1+fee", 6);
    }

    private static void p25Numbers() {
        gives("one digit", "0", 0);
        gives("one digit", "9", 9);
        gives("four digits", "1000", 1000);
        gives("four digits", "9999", 9999);
        gives("four digits", "0000", 0);
        gives("four digits", "0012", 12);
        fault("five digits", "fee 10000", 4);
        fault("five digits", "fee 00000", 4);
        fault("five digits", "fee 1+00001", 6);
        fault("very many digits", "fee " + "1".repeat(92), 4);
        fault("no NUMBER below 0", "fee -1", 4);
        fault("no NUMBER with a point", "fee 1.5", 5);
    }

    private static void p25Names() {
        String[][] names = {{"burn", "wfx"}, {"fee", "np"}, {"fine", "rc"}};
        for (String[] n : names) {
            for (char c = 'a'; c <= 'z'; c++) {
                if (n[1].indexOf(c) >= 0) {
                    good("a NAME of " + n[0], n[0] + " " + c);
                } else {
                    fault("no NAME of " + n[0], n[0] + " " + c, n[0].length() + 1);
                }
            }
            fault("each one letter", n[0] + " " + n[1], n[0].length() + 1);
            fault("each one letter", n[0] + " " + n[1].charAt(0) + n[1].charAt(0), n[0].length() + 1);
            fault("no capitals", n[0] + " " + Character.toUpperCase(n[1].charAt(0)), n[0].length() + 1);
        }
    }

    /** A word is a row of letters a .. z, or of digits, as long as it goes; any other byte is a sign. */
    private static void p25Words() {
        fault("the byte ahead of a is a sign", "fee n`", 5);
        fault("the byte behind z is a sign", "fee n{", 5);
        fault("z is a letter", "fee nz", 4);
        fault("a is a letter", "fee na", 4);
        fault("the byte behind 9 is a sign", "fee 9:", 5);
        fault("the byte ahead of 0 is a sign, and goes on", "fee 9/", 6);
        fault("0 is a digit", "fee 11110", 4);
        fault("9 is a digit", "fee 11119", 4);
        fault("a word that needs a blank, digits behind letters", "fee1", 3);
        fault("a word that needs a blank, digits behind a NAME", "fee n1", 5);
        fault("a word that needs a blank, letters behind digits", "fee 1n", 5);
        fault("a word that needs a blank, letters behind four digits", "fee 1234n", 8);
        fault("a word that needs a blank, too long too", "fee12345", 3);
        fault("a word that needs a blank, a KEY behind digits", "1fee", 0);
        fault("a word with its blank, but no TEXT goes on", "fee 1 n", 6);
        fault("a word behind a bracket needs none, but no TEXT goes on", "fee (1)n", 7);
        good("a word behind a sign needs no blank", "fee!n");
        good("a word behind a bracket needs no blank", "fee(n)");
        good("a sign behind a word needs no blank", "fee 1+n");
    }

    private static void p25Blanks() {
        good("blanks at the ends", "   fee 1   ");
        good("blanks between all", " fee  (  !  n  +  1  )  *  2 ");
        gives("a blank parts a NUMBER not from its sign", "1 + 2", 3);
        fault("a blank parts a NUMBER", "fee 1 2", 6);
        fault("a blank parts a KEY", "fe e 1", 0);
        fault("byte 31 is no blank", "fee " + (char) 31 + "1", 4);
        fault("byte 33 is a sign", "fee 1!", 5);
        fault("a tab is no blank", "fee\t1", 3);
        fault("a line's end is no blank", "fee 1\n", 5);
        fault("byte 0 is no blank", "fee 1" + (char) 0, 5);
        fault("byte 160 is no blank", "fee 1" + (char) 160, 5);
        fault("byte 255 is no blank", (char) 255 + "fee 1", 0);
    }

    private static void p25Brackets() {
        for (int many = 1; many <= 8; many++) {
            gives("brackets, " + many, "(".repeat(many) + "n" + ")".repeat(many), 20);
        }
        fault("the ninth ( within others", "fee " + "(".repeat(9) + "n" + ")".repeat(9), 12);
        fault("the ninth ( within others, behind signs", "fee " + "(1+".repeat(8) + "(n" + ")".repeat(9), 28);
        gives("nine (, not within others", "(".repeat(8) + "n" + ")".repeat(8) + "+(1)", 21);
        gives("nine (, one of them ended", "((1)+" + "(".repeat(7) + "n" + ")".repeat(7) + ")", 21);
        fault("one of them ended, the ninth all the same", "fee ((1)+" + "(".repeat(8) + "n" + ")".repeat(9), 4 + 5 + 7);
        fault("( stands apart from !", "fee " + "!(".repeat(8) + "(n" + ")".repeat(9), 20);
        for (char sign : "|&<=>+-*/".toCharArray()) {
            good("all of E in brackets", "fee (1" + sign + "2)");
        }
        gives("the loosest in brackets", "(1|0)*5", 5);
        fault("a ) too many", "fee (n))", 7);
        fault("a ) with no (", "fee n)", 5);
        fault("a ) too soon", "fee ()", 5);
        fault("a ) too soon, behind a sign", "fee (n+)", 7);
    }

    private static void p25Nots() {
        for (int many = 1; many <= 8; many++) {
            gives("!, " + many, "!".repeat(many) + "n", many % 2 == 1 ? 0 : 1);
        }
        fault("the ninth !", "fee " + "!".repeat(9) + "n", 12);
        fault("the ninth !, with blanks", "fee " + "! ".repeat(9) + "n", 20);
        fault("the ninth !, through brackets", "fee " + "!(".repeat(8) + "!n" + ")".repeat(8), 20);
        gives("eight ! and eight (", "!(".repeat(8) + "n" + ")".repeat(8), 1);
        gives("nine !, not within others", "!".repeat(8) + "n+!n", 1);
        gives("nine !, one of them ended by its piece", "!(!n+" + "!".repeat(7) + "n)", 1);
        fault("one of them ended, the ninth all the same", "fee !(!n+" + "!".repeat(8) + "n)", 4 + 5 + 7);
        fault("! with no PIECE", "fee !", 5);
        fault("! behind a PIECE", "fee n!", 5);
        fault("! ahead of a sign", "fee !+1", 5);
    }

    private static void p25Tests() {
        for (String sign : new String[] {"<", "=", ">"}) {
            good("one test", "fee 1" + sign + "2");
            for (String other : new String[] {"<", "=", ">"}) {
                fault("a second test", "fee 1" + sign + "2" + other + "3", 7);
                good("a second test behind &", "fee 1" + sign + "2&1" + other + "3");
                good("a second test behind |", "fee 1" + sign + "2|1" + other + "3");
                good("a second test in brackets", "fee (1" + sign + "2)" + other + "3");
                good("a second test in brackets behind it", "fee 1" + sign + "(2" + other + "3)");
            }
        }
        fault("a second test behind a sum", "fee 1<2+3*4<5", 11);
        fault("two signs of a test", "fee 1<=2", 6);
        fault("two signs of a test", "fee 1>>2", 6);
    }

    private static void p25Signs() {
        for (char sign : "|&<=>+-*/".toCharArray()) {
            good("a sign between pieces", "fee 1" + sign + "2");
            fault("a sign ahead of all", "fee " + sign + "1", 4);
            fault("a sign behind all", "fee 1" + sign, 6);
            fault("a sign twice", "fee 1" + sign + sign + "2", 6);
        }
        for (int b = 33; b < 256; b++) {
            char c = (char) b;
            if ("|&<=>+-*/".indexOf(c) < 0 && !(c >= '0' && c <= '9') && !(c >= 'a' && c <= 'z')) {
                fault("no TEXT goes on with byte " + b, "fee 1" + c + "2", 5);
            }
        }
    }

    private static void p25EndTooSoon() {
        fault("the end, nothing at all", "", 0);
        fault("the end, blanks alone", "  ", 2);
        fault("the end behind a KEY", "burn", 4);
        fault("the end behind a KEY and blanks", "burn   ", 7);
        fault("the end behind a sign", "burn w+", 7);
        fault("the end behind a sign and blanks", "burn w+  ", 9);
        fault("the end in brackets", "burn (w", 7);
        fault("the end in brackets and blanks", "burn (w ", 8);
        fault("the end behind (", "burn (", 6);
        fault("the end in eight brackets", "burn ((((((((w)))))))", 21);
        fault("the end behind !", "burn !!", 7);
    }

    private static void p25FirstFault() {
        fault("of two faults the first", "fee 1 2 + ?", 6);
        fault("of two faults the first, ahead of the end", "fee ? (", 4);
        fault("of two faults the KEY", "foo ?", 0);
        fault("a long NUMBER ahead of a long NUMBER", "fee 12345+12345", 4);
        fault("in brackets ahead of a missing )", "fee (1+?", 7);
    }

    /** Nothing is left of a text with a fault, wherever its reading ended. */
    private static void p25BehindAFault() {
        String[] faults = {"fee w", "fee 12345", "fee 1n", "fee (((1", "fee !!!", "fee 1 1", "foo", "1", "fee ?", "fee 1+1+", "", "burn 1<2<3", "fee"};
        for (String text : faults) {
            LastLight x = new LastLight();
            Due.textOf(x, text);
            due("promise 25: a text behind '" + text + "'", Due.textOf(x, "fee 7"), 0);
            due("promise 25: a text behind '" + text + "', NUMBERS and NAMES", x.textTold(0, 1), 1);
            due("promise 25: a text behind '" + text + "' gives", x.fee(), 7);
        }
    }

    private static void p25Values() {
        gives("what is not 0 is true, below 0 too", "(0-5)&1", 1);
        gives("& gives 1", "5&7", 1);
        gives("& gives 0", "0&7", 0);
        gives("& gives 0, the other side", "7&0", 0);
        gives("& gives 0, both", "0&0", 0);
        gives("| gives 1", "0|7", 1);
        gives("| gives 1, the other side", "7|0", 1);
        gives("| gives 0", "0|0", 0);
        gives("! of what is below 0", "!(0-1)", 0);
        gives("a test gives 0", "n<20", 0);
        gives("a test gives 1 at its edge", "n<21", 1);
        gives("= at its edge", "n=20", 1);
        gives("= beside it", "n=19", 0);
        gives("> at its edge", "n>20", 0);
        gives("> beside it", "n>19", 1);
        gives("both sides are worked out", "1|1/0", 1);
        gives("| is looser than &", "1|0&0", 1);
        gives("& is looser than a test", "2&1<2", 1);
        gives("a test is looser than a sum", "1+1=2", 1);
        gives("a sum is looser than a term", "2+3*4", 14);
        gives("! is of one PIECE", "!0+1", 2);
        gives("from the left, -", "9-3-2", 4);
        gives("from the left, /", "100/5/2", 10);
        gives("from the left, / and *", "7/2*2", 6);
    }

    private static void p25Wraps() {
        gives("* wraps", "9999*9999*9999", 9999 * 9999 * 9999);
        gives("* wraps to the least", "8192*8192*32", MIN);
        gives("* wraps to 0", "8192*8192*64", 0);
        gives("- wraps to the most", "8192*8192*32-1", MAX);
        gives("+ wraps to the least", "8192*8192*32-1+1", MIN);
        gives("the least by -1 wraps", "8192*8192*32/(0-1)", MIN);
        gives("0 less the least wraps", "0-8192*8192*32", MIN);
        gives("the least is less than the most", "8192*8192*32<8192*8192*32-1", 1);
        gives("the most is not less than the least", "8192*8192*32-1<8192*8192*32", 0);
        gives("the least is true", "!(8192*8192*32)", 0);
    }

    private static void p25DividedByNothing() {
        gives("/ is 0 by 0", "9/0", 0);
        gives("/ is 0 by 0, of 0", "0/0", 0);
        gives("/ is 0 by what is 0", "9/(n-20)+5", 5);
        gives("/ cuts", "7/2", 3);
        gives("/ cuts towards 0", "(0-7)/2", -3);
        gives("/ cuts towards 0, by one below 0", "7/(0-2)", -3);
        gives("/ cuts towards 0, both below 0", "(0-7)/(0-2)", 3);
        gives("/ cuts to 0", "(0-1)/2", 0);
    }

    private static void p26Bounds() {
        Edges.within("promise 26: textTold of text", Edges::laden, (x, v) -> x.textTold(v, 0), 0, 2, BAD);
        Edges.within("promise 26: textTold of fourteen", () -> texts(14), (x, v) -> x.textTold(v, 1), 0, 13, BAD);
        Edges.within("promise 26: textTold what", Edges::laden, (x, v) -> x.textTold(0, v), 0, 1, BAD);
        due("promise 26: no texts", new LastLight().textTold(0, 0), BAD);
        LastLight x = texts(2);
        x.keep();
        Due.textOf(x, "fine r");
        x.back();
        due("promise 26: gone by an image", x.textTold(2, 0), BAD);
    }

    private static void p26Pieces() {
        String[] texts = {"burn 1", "fee n+1", "fine !((r))", "burn 1234", "fee (n-n)*n/0", "fee n" + "+1".repeat(45)};
        int[] keys = {0, 1, 2, 0, 1, 1}, pieces = {1, 2, 1, 1, 4, 46};
        LastLight x = new LastLight();
        for (int i = 0; i < texts.length; i++) {
            Due.textOf(x, texts[i]);
            due("promise 26: KEY of '" + texts[i] + "'", x.textTold(i, 0), keys[i]);
            due("promise 26: NUMBERS and NAMES of '" + texts[i] + "'", x.textTold(i, 1), pieces[i]);
        }
        Due.textOf(x, "fee 1+1+");
        due("promise 26: a fault counts for no TEXT", x.textTold(6, 1), BAD);
        Due.textOf(x, "fee 3");
        due("promise 26: nor for the next one", x.textTold(6, 1), 1);
    }

    private static void p27Bounds() {
        Edges.within("promise 27: why", Edges::laden, (x, v) -> x.why(v), 0, 2, BAD);
        for (int key = 0; key < 3; key++) {
            LastLight x = new LastLight();
            Due.textOf(x, new String[] {"burn 1", "fee 1", "fine 1"}[key]);
            for (int asked = 0; asked < 3; asked++) {
                due("promise 27: why " + asked + ", a text of " + key + " alone", x.why(asked), asked == key ? 0 : NONE);
            }
        }
    }

    private static void p27ToldLast() {
        LastLight x = texts(14);
        due("promise 27: the last of fourteen", x.why(1), 13);
        Due.textOf(x, "fee 9");
        due("promise 27: not one that was FULL", x.why(1), 13);
        Due.textOf(x, "fee ?");
        due("promise 27: not one with a fault", x.why(1), 13);
        due("promise 27: none of the others", x.why(0), NONE);
        LastLight y = texts(1);
        y.keep();
        Due.textOf(y, "fee 5");
        Due.textOf(y, "burn 5");
        y.back();
        due("promise 27: as in the image", y.why(1), 0);
        due("promise 27: none in the image", y.why(0), NONE);
    }
}
