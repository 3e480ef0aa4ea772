/** Boundary cases of THE TAPE, texts, THE LAW: the terms of them, and promises 7 to 10. */
final class EdgesOfTexts extends Edges {
    private static final String REST = ";dares 1;leaves 0;";

    private EdgesOfTexts() {
    }

    static void all() {
        tokens();
        expressions();
        faults();
        open();
        theLaw();
        names();
        promise7();
        promise8();
        promise9();
        promise10();
    }

    /** What the text gains for a SOUL with MORE 6, LUCK 40, in HOUSE 2, who opened door 0, on DAY 9, by door 1. */
    private static long gains(String e) {
        DoorOfLuck x = town(0, 2, 2, 1);
        x.person(SOUL + 6, 0);
        x.open(0, 0);
        x.put(0, 1, 40);
        x.dawn(9);
        int t = read(x, "gains " + e + REST);
        if (t < 0) return t;
        x.force(t);
        return x.asks(0, 0, 1);
    }

    private static void is(String e, long due) {
        Due.is(e, gains(e), due);
    }

    /** The text has its FAULT there, takes no number, and THE TAPE is empty behind it. */
    private static void fault(String text, int place) {
        DoorOfLuck x = new DoorOfLuck();
        Due.is("text() of '" + text + "'", read(x, text), -100 - place);
        Due.is("bytes behind it", x.count(5), 0);
        Due.is("texts behind it", x.count(3), 1);
    }

    private static void fine(String text) {
        Due.is("text() of '" + text + "'", read(new DoorOfLuck(), text), 1);
    }

    // ---- terms: tokens

    private static void tokens() {
        edge(TERMS, "THE TAPE (160 bytes at most)", "a text of 160 bytes is read", () -> {
            String text = "gains 1" + "+1".repeat(67) + ";dares 1;leaves 0;";
            Due.is("its bytes", text.length(), 159);
            DoorOfLuck x = new DoorOfLuck();
            Due.is("text()", read(x, text + "\n"), 1);
            Due.is("160 of them, fed", fed160().count(5), 160);
        });
        edge(TERMS, "TOKENS, each as long as can be", "words, numbers stand close together, or are others then", () -> {
            fine("gains1;dares0;leaves99;");
            fine("gains1or 2and 3;dares not(1);leaves-luck;");
            fault("gainsluck;", 0);
            fault("gains luckday;", 6);
            fault("gains 1 orand 1;", 8);
            fault("gains notluck;", 6);
            fault("gains 12luck;", 8);
        });
        edge(TERMS, "WORDS (as many letters a .. z as stand there)", "a and z are letters, their neighbours begin none", () -> {
            fault("gains a;", 6);
            fault("gains z;", 6);
            fault("gains luck`;", 10);
            fault("gains luck{;", 10);
            fault("gains Luck;", 6);
            fault("gains lucK;", 6);
            fault("gains luckK;", 10);
            fault("gains luckz;", 6);
            fault("gains lucka;", 6);
            fault("gains luck1;", 10);
        });
        edge(TERMS, "NUMBERS (as many digits as stand there; more than 4 are too long)", "one digit, four, five, very many", () -> {
            is("0", 0);
            is("9", 9);
            is("0009", 9);
            is("9999-9900", 99);
            is("1000-999", 1);
            fault("gains 00000;", 6);
            fault("gains 10000;", 6);
            fault("gains 1+12345;", 8);
            fault("gains " + "1".repeat(100) + ";", 6);
            fault("gains 4294967297;", 6);
            fault("gains 1 2;", 8);
        });
        edge(TERMS, "SIGNS ( ) ; + - * < =", "no other byte begins a token: all 256 of them", () -> {
            for (int b = 0; b < 256; b++) {
                DoorOfLuck x = new DoorOfLuck();
                feedAll(x, "gains ");
                x.feed(1, b, 0, 0, 0, 0);
                boolean opens = b == '(';
                boolean fits = b >= '0' && b <= '9' || b == '-' || b == 32 || b == 10;
                Due.is("byte " + b, read(x, "1;dares 1;leaves 0;"), opens ? -108 : fits ? 1 : -106);
            }
        });
        edge(TERMS, "SIGNS ( ) ; + - * < =", "behind a number: all 256 bytes", () -> {
            for (int b = 0; b < 256; b++) {
                DoorOfLuck x = new DoorOfLuck();
                feedAll(x, "gains 1 ");
                x.feed(1, b, 0, 0, 0, 0);
                boolean fits = b == '+' || b == '-' || b == '*' || b == '<' || b == '=';
                int due = fits ? 1 : b == 32 || b == 10 ? -109 : b == ';' ? -109 : -108;
                Due.is("byte " + b, read(x, "1;dares 1;leaves 0;"), due);
            }
        });
        edge(TERMS, "blanks (32, 10) may stand between.", "none, many, ahead, behind; 9, 11, 12, 13, 0, 160 are none", () -> {
            fine("gains1;dares1;leaves1;");
            fine("  \n\n gains \n 1\n;\ndares\n\n1 ; leaves   1 \n;  \n");
            for (char c : new char[] {9, 11, 12, 13, 0, 31, 33, 160}) fault("gains 1" + c + ";", 7);
            fault("gains 1 2;", 8);
            fault("ga ins 1;", 0);
        });
        edge(TERMS, "TEXT: gains E ; dares E ; leaves E ;", "no part too few, none too many, none at another place", () -> {
            fault("dares 1;gains 1;leaves 1;", 0);
            fault("leaves 1;", 0);
            fault("gains 1;gains 1;", 8);
            fault("gains 1;dares 1;dares 1;", 16);
            fault("gains 1;dares 1;leaves 1;gains 1;", 25);
            fault(";", 0);
            fault("gains 1;;dares 1;", 8);
            fault("gains;", 5);
            fault("gains 1 dares 1;", 8);
            fault("gains 1;dares;", 13);
            fault("gains 1;dares 1;leaves;", 22);
        });
    }

    private static DoorOfLuck fed160() {
        DoorOfLuck x = new DoorOfLuck();
        feedAll(x, " ".repeat(160));
        return x;
    }

    // ---- terms: expressions

    private static void expressions() {
        edge(TERMS, "E: AND { or AND }. AND: NOT { and NOT }.", "none, one, many of them", () -> {
            is("7", 7);
            is("0 or 0", 0);
            is("0 or 0 or 0 or 0 or 3", 1);
            is("3 and 4 and 5 and 6 and 0", 0);
            is("3 and 4 and 5 and 6 and 7", 1);
            is("0 and 0 or 1", 1);
            is("1 or 0 and 0", 1);
            fault("gains 1 or;", 10);
            fault("gains or 1;", 6);
            fault("gains 1 and or 1;", 12);
        });
        edge(TERMS, "NOT: not NOT, or SUM, perhaps < or = and a SUM.", "one < or = at most", () -> {
            is("1<2", 1);
            is("2<2", 0);
            is("3<2", 0);
            is("2=2", 1);
            is("1=2", 0);
            is("3=2", 0);
            is("not 1<2", 0);
            is("not not 2", 1);
            fault("gains 1<2<3;", 9);
            fault("gains 1=2=3;", 9);
            fault("gains 1<not 1;", 8);
            fault("gains 1+not 1;", 8);
            fault("gains -not 1;", 7);
            fault("gains <1;", 6);
            fault("gains 1<;", 8);
            fault("gains 1<=2;", 8);
        });
        edge(TERMS, "SUM: TERM { + or - TERM }. TERM: ONE { * ONE }.", "from the left on, * ahead", () -> {
            is("20-7-3", 10);
            is("20-7+3", 16);
            is("2+3*4", 14);
            is("2*3+4", 10);
            is("2*3*4", 24);
            is("9-2*3", 3);
            fault("gains 1*;", 8);
            fault("gains *1;", 6);
            fault("gains +1;", 6);
            fault("gains 1+;", 8);
            fault("gains 1**1;", 8);
        });
        edge(TERMS, "ONE: a NUMBER, a NAME, - ONE, ( E ).", "none of them empty", () -> {
            is("-7", -7);
            is("5--3", 8);
            is("-luck+41", 1);
            is("(0 or 9)", 1);
            fault("gains ();", 7);
            fault("gains -;", 7);
            fault("gains (1;", 8);
            fault("gains 1);", 7);
            fault("gains 1(2);", 7);
            fault("gains (gains);", 7);
        });
        edge(TERMS, "An E is an int (32 bits, wrapping)", "by +, -, *, and - ahead", () -> {
            String least = "4096*4096*128";
            is(least + "<0", 1);
            is("0<" + least + "-1", 1);
            is(least + "-1+1<0", 1);
            is("-(" + least + ")<0", 1);
            is("-(" + least + ")=" + least, 1);
            is("8192*8192*64+5", 5);
            is("9999*9999*9999=(0-9999*9999*9999)*(0-1)", 1);
            is("9999*9999*9999<0", 9999 * 9999 * 9999 < 0 ? 1 : 0);
            is("-1<8192*8192*64", 1);
        });
        edge(TERMS, "of or, and, not, <, = 1 or 0", "1, not what stood there", () -> {
            is("5 or 7", 1);
            is("0 or 7", 1);
            is("5 and 7", 1);
            is("not 0", 1);
            is("not 7", 0);
            is("(3<9)*5", 5);
            is("(9=9)*5", 5);
        });
        edge(TERMS, "(what is not 0 is true)", "-1, the least int; 2 to the 32nd is 0", () -> {
            is("-1 and 1", 1);
            is("-1 or 0", 1);
            is("not -1", 0);
            is("4096*4096*128 and 1", 1);
            is("not 4096*4096*128", 0);
            is("8192*8192*64 or 0", 0);
            is("not 8192*8192*64", 1);
        });
    }

    // ---- terms: faults

    private static void faults() {
        edge(TERMS, "the place of the first byte of the first TOKEN that can't stand there", "of several the first; places 0 and 159", () -> {
            fault(") ) )", 0);
            fault("gains ) 12345 @;", 6);
            fault("gains 1 luck 12345;", 8);
            fault("gains 12345 ) @;", 6);
            fault("gains @ 12345 );", 6);
            fault("gains ) " + (char) 255, 6);
            fault("  \n gains gains;", 10);
            fault(" ".repeat(159) + "1", 159);
            fault("gains 1;dares 1;leaves 0;" + " ".repeat(134) + "1", 159);
        });
        edge(TERMS, "(the text's size, if it ends too early)", "none, blanks, behind every token but the last, 160", () -> {
            String whole = "gains ( not - 1 < luck ) ; dares 1 ; leaves 0 ; ";
            for (int n = 0; n < whole.length() - 2; n++) {
                if (whole.charAt(n) == ' ') fault(whole.substring(0, n), n);
                if (whole.charAt(n) == ' ') fault(whole.substring(0, n + 1), n + 1);
            }
            fault("", 0);
            fault(" ", 1);
            fault("\n\n\n", 3);
            fault(" ".repeat(160), 160);
            fault("gains 1" + " ".repeat(153), 160);
            fine(whole);
            fine(whole.substring(0, whole.length() - 1));
        });
        edge(TERMS, "also of a byte that begins none", "at the first place, inside, behind all", () -> {
            fault("@", 0);
            fault("gains 1 @;", 8);
            fault("gains 1;dares 1;leaves 0;@", 25);
            fault("gains 1;dares 1;leaves 0; " + (char) 0, 26);
            fault((char) 255 + "gains 1;", 0);
        });
        edge(TERMS, "of a WORD that is neither KEY nor NAME", "a letter too few, one too many, another one", () -> {
            for (String word : new String[] {"luck", "door", "house", "day", "opened", "more"}) {
                fine("gains " + word + REST);
                fault("gains " + word + "s" + REST, 6);
                fault("gains " + word.substring(1) + REST, 6);
                fault("gains " + word.substring(0, word.length() - 1) + REST, 6);
                fault("gains " + word.substring(0, word.length() - 1) + "j" + REST, 6);
            }
            for (String word : new String[] {"gain", "gainss", "gainr", "or", "luck"}) fault(word + " 1;", 0);
            for (String word : new String[] {"dare", "daress", "darer"}) fault("gains 1;" + word + " 1;", 8);
            for (String word : new String[] {"leave", "leavess", "leaver"}) fault("gains 1;dares 1;" + word + " 1;", 16);
            for (String word : new String[] {"o", "orr", "oq", "an", "ands", "anc", "no", "nots", "nor"}) fault("gains 1 " + word + " 1;", 8);
        });
        edge(TERMS, "a NUMBER that is too long", "five digits, at its first one", () -> {
            fault("gains 12345;", 6);
            fault("gains 1+00000+1;", 8);
            fault("gains (12345", 7);
            fine("gains 1234" + REST);
        });
    }

    private static void open() {
        String sentence = "a ( , a not, a - ahead of a ONE while 5 of these are open";
        edge(TERMS, sentence, "five are fine, the sixth is none, be it which it may", () -> {
            is("(((((7)))))", 7);
            is("-----7", -7);
            is("not not not not not 0", 1);
            fault("gains ((((((7))))));", 11);
            fault("gains ------7;", 11);
            fault("gains not not not not not not 0;", 26);
        });
        edge(TERMS, sentence, "five of one sort or of several, then each of the three", () -> {
            is("not(-(-7))", 0);
            is("not not(-(7))", 1);
            fault("gains not(-(-(7)));", 13);
            fault("gains not(-(--7));", 13);
            fault("gains not(-((not 7)));", 13);
            fault("gains (((((-7)))));", 11);
            fault("gains (((((not 7)))));", 11);
            fault("gains -----(7);", 11);
            fault("gains not not not not not -7;", 26);
            fault("gains not not not not not(7);", 25);
            fault("gains not (((( (7)))));", 15);
        });
        edge(TERMS, sentence, "a - between two is none of these", () -> {
            is("(((((9-2)))))", 7);
            is("-----9-2", -11);
            fault("gains (((((9--2)))));", 13);
        });
        edge(TERMS, sentence, "in each part anew", () -> {
            fine("gains (((((1)))));dares not not not not not 1;leaves -----1;");
            fault("gains 1;dares ((((((1))))));", 19);
            fault("gains 1;dares 1;leaves ------1;", 28);
        });
        edge(TERMS, "(a ( till its ) , not and - till what they belong to ends)", "five again as soon as they are closed", () -> {
            is("(((((1)))))+(((((2)))))", 3);
            is("-----1+-----2", -3);
            is("-----1*-----2", 2);
            is("-----1*(((((2)))))", -2);
            is("not not not not not 1 or (((((1)))))", 1);
            is("not not not not not 1 and -----1", 0);
            is("((((1)+(2))))", 3);
            is("((((((1)", -111);
        });
        edge(TERMS, "(a ( till its ) , not and - till what they belong to ends)", "a not is open through its sum and what it is held to", () -> {
            fault("gains not not not not not 1+(1);", 28);
            fault("gains not not not not not 1<-1;", 28);
            fault("gains not not not not not 1=(1);", 28);
            fault("gains not not not not not 1*-1;", 28);
            is("not not not not -1<-1", 0);
        });
        edge(TERMS, "(a ( till its ) , not and - till what they belong to ends)", "a - is open till its ONE ends", () -> {
            is("-((((1))))", -1);
            is("-((((1))))*(((((2)))))", -2);
            fault("gains -((((-1))));", 11);
            fault("gains -(((((1)))));", 11);
        });
    }

    // ---- terms: the law

    private static void theLaw() {
        edge(TERMS, "TEXTS are numbered from 0 on, 6 at most;", "five more, no sixth", () -> {
            DoorOfLuck x = town(0, 1);
            x.person(SOUL, 0);
            for (int t = 1; t < 6; t++) Due.is("text()", read(x, "gains " + t + REST), t);
            Due.is("one more", read(x, "gains 6" + REST), FULL);
            Due.is("six", x.count(3), 6);
            for (int t = 0; t < 6; t++) {
                x.force(t);
                Due.is("gains by text " + t, x.asks(0, 0, 0), t == 0 ? 3 : t);
            }
        });
        edge(TERMS, "TEXT 0, at first, and THE LAW: gains 3 ; dares 1 ; leaves 0 ;", "of a new object", () -> {
            DoorOfLuck x = town(0, 1);
            x.person(SOUL + 9, 55);
            Due.is("one text", x.count(3), 1);
            Due.is("the law", x.count(4), 0);
            each("says", part -> x.asks(part, 0, 0), 3, 1, 0);
        });
        edge(TERMS, "(gains -99 .. 99,", "to the bound, at it, past it, at the ends of an int", () -> {
            is("98", 98);
            is("99", 99);
            is("100", 99);
            is("9999", 99);
            is("-98", -98);
            is("-99", -99);
            is("-100", -99);
            is("-9999", -99);
            is("4096*4096*128", -99);
            is("4096*4096*128-1", 99);
        });
        edge(TERMS, "leaves 0 .. 99, else the bound;", "to the bound, at it, past it, at the ends of an int", () -> {
            String[] said = {"0", "1", "98", "99", "100", "9999", "-1", "-99", "4096*4096*128", "4096*4096*128-1"};
            int[] due = {0, 1, 98, 99, 99, 99, 0, 0, 0, 99};
            for (int i = 0; i < due.length; i++) Due.is("leaves " + said[i], part(2, said[i]), due[i]);
        });
        edge(TERMS, "dares: yes, if it isn't 0)", "0; 1, -1, the least int; 2 to the 32nd", () -> {
            String[] said = {"0", "1", "2", "-1", "9999", "4096*4096*128", "8192*8192*64", "1-1"};
            int[] due = {0, 1, 1, 1, 1, 1, 0, 0};
            for (int i = 0; i < due.length; i++) Due.is("dares " + said[i], part(1, said[i]), due[i]);
        });
    }

    private static long part(int part, String e) {
        DoorOfLuck x = town(0, 1);
        x.person(SOUL, 0);
        law(x, "gains 0;dares " + (part == 1 ? e : "1") + ";leaves " + (part == 2 ? e : "0") + ";");
        return x.asks(part, 0, 0);
    }

    private static void names() {
        edge(TERMS, "luck: LUCK; door: its number; house: the HOUSE one is in;", "the least and the most of each", () -> {
            DoorOfLuck x = new DoorOfLuck();
            for (int d = 0; d < 12; d++) x.door(0, 1);
            x.person(SOUL, 0);
            x.person(SOUL, 799);
            law(x, "gains luck;dares 1;leaves door*8+house;");
            Due.is("luck 0", x.asks(0, 0, 0), 0);
            Due.is("luck 99", x.asks(0, 1, 0), 99);
            Due.is("door 0, house 0", x.asks(2, 0, 0), 0);
            Due.is("door 11, house 0", x.asks(2, 0, 11), 88);
            Due.is("door 11, house 7", x.asks(2, 1, 11), 95);
        });
        edge(TERMS, "day: DAY; opened: how many DOORS one OPENED; more: MORE.", "the least and the most of each", () -> {
            DoorOfLuck x = new DoorOfLuck();
            for (int d = 0; d < 12; d++) x.door(0, 1);
            x.person(SOUL, 0);
            x.person(SOUL + 9, 0);
            law(x, "gains opened;dares day=999;leaves more;");
            Due.is("opened none", x.asks(0, 1, 0), 0);
            Due.is("day 0", x.asks(1, 1, 0), 0);
            x.dawn(999);
            Due.is("day 999", x.asks(1, 1, 0), 1);
            Due.is("more 0", x.asks(2, 0, 0), 0);
            Due.is("more 9", x.asks(2, 1, 0), 9);
            for (int d = 0; d < 12; d++) x.open(1, d);
            Due.is("opened twelve", x.asks(0, 1, 0), 12);
            x.open(1, 0);
            Due.is("one of them again", x.asks(0, 1, 0), 12);
            Due.is("of another one", x.asks(0, 0, 0), 0);
        });
    }

    // ---- promises 7 to 10

    private static void promise7() {
        edge(7, "The first n (1 .. 5) of five bytes", "each n, what is fed and what isn't", () -> {
            String[] parts = {"g", "ai", "ns ", "7;da", "res 1"};
            DoorOfLuck x = new DoorOfLuck();
            int size = 0;
            for (int n = 1; n <= 5; n++) {
                int[] b = {'@', '@', '@', '@', '@'};
                for (int i = 0; i < n; i++) b[i] = parts[n - 1].charAt(i);
                size += n;
                Due.is("feed " + n, x.feed(n, b[0], b[1], b[2], b[3], b[4]), size);
            }
            Due.is("they are as fed", read(x, ";leaves 0;"), 1);
        });
        edge(7, "BAD: n, any of the five;", "n below 1, above 5", () -> {
            DoorOfLuck x = new DoorOfLuck();
            refused("feed", BAD, outside(1, 5), v -> x.feed(v, 1, 1, 1, 1, 1));
            Due.is("none came", x.count(5), 0);
        });
        edge(7, "(0 .. 255 each)", "0 and 255 at each of the five places", () -> {
            DoorOfLuck x = new DoorOfLuck();
            Due.is("0", x.feed(5, 0, 0, 0, 0, 0), 5);
            Due.is("255", x.feed(5, 255, 255, 255, 255, 255), 10);
        });
        edge(7, "BAD: n, any of the five;", "each of the five, those behind n, too", () -> {
            DoorOfLuck x = new DoorOfLuck();
            for (int n = 1; n <= 5; n++) {
                int so = n;
                refused("feed, the first", BAD, outside(0, 255), v -> x.feed(so, v, 1, 1, 1, 1));
                refused("feed, the second", BAD, outside(0, 255), v -> x.feed(so, 1, v, 1, 1, 1));
                refused("feed, the third", BAD, outside(0, 255), v -> x.feed(so, 1, 1, v, 1, 1));
                refused("feed, the fourth", BAD, outside(0, 255), v -> x.feed(so, 1, 1, 1, v, 1));
                refused("feed, the fifth", BAD, outside(0, 255), v -> x.feed(so, 1, 1, 1, 1, v));
            }
            Due.is("none came", x.count(5), 0);
        });
        edge(7, "FULL: they have not all room (none comes).", "each n, one byte too many and just enough", () -> {
            for (int n = 1; n <= 5; n++) {
                DoorOfLuck x = new DoorOfLuck();
                feedAll(x, " ".repeat(161 - n));
                Due.is("feed " + n + " into room of " + (n - 1), x.feed(n, 1, 1, 1, 1, 1), FULL);
                Due.is("none came", x.count(5), 161 - n);
                if (n > 1) Due.is("just enough", x.feed(n - 1, ' ', ' ', ' ', ' ', ' '), 160);
                Due.is("no room at all", x.feed(1, ' ', 0, 0, 0, 0), FULL);
                Due.is("blanks alone", x.text(), -260);
            }
        });
        edge(7, "BAD: n, any of the five; FULL", "BAD ahead of FULL", () -> {
            DoorOfLuck x = fed160();
            Due.is("n", x.feed(6, 1, 1, 1, 1, 1), BAD);
            Due.is("n", x.feed(0, 1, 1, 1, 1, 1), BAD);
            Due.is("a byte", x.feed(1, 1, 1, 1, 1, 256), BAD);
            Due.is("a byte", x.feed(1, -1, 1, 1, 1, 1), BAD);
            Due.is("none of it", x.feed(1, 1, 1, 1, 1, 1), FULL);
        });
    }

    private static void promise8() {
        edge(8, "THE TAPE, which is empty then (by a FAULT, too), is a TEXT: its number;", "empty by a text, by a fault, by a fault at 0", () -> {
            DoorOfLuck x = new DoorOfLuck();
            Due.is("a text", read(x, "gains 1" + REST), 1);
            Due.is("empty", x.count(5), 0);
            Due.is("a fault", read(x, "gains 1;dares"), -113);
            Due.is("empty", x.count(5), 0);
            Due.is("an empty one", x.text(), -100);
            Due.is("the next one is what is fed now", read(x, "gains 2" + REST), 2);
            feedAll(x, " ".repeat(160));
            Due.is("room for all again", x.count(5), 160);
        });
        edge(8, "is a TEXT: its number;", "a fault takes none, force changes none", () -> {
            DoorOfLuck x = new DoorOfLuck();
            Due.is("a fault", read(x, "gains"), -105);
            Due.is("the first", read(x, "gains 1" + REST), 1);
            Due.is("a fault", read(x, "gains"), -105);
            x.force(1);
            Due.is("the second", read(x, "gains 2" + REST), 2);
            Due.is("three", x.count(3), 3);
            Due.is("the law stays", x.count(4), 1);
        });
        edge(8, "-100 less the place of its FAULT.", "place 0, 1, 160", () -> {
            Due.is("0", read(new DoorOfLuck(), "@"), -100);
            Due.is("1", read(new DoorOfLuck(), " @"), -101);
            Due.is("160", read(new DoorOfLuck(), " ".repeat(160)), -260);
        });
        edge(8, "FULL (ahead of the FAULT; then THE TAPE stays).", "with a fault, with none, with an empty tape", () -> {
            DoorOfLuck x = new DoorOfLuck();
            for (int t = 1; t < 6; t++) read(x, "gains " + t + REST);
            Due.is("empty", x.text(), FULL);
            feedAll(x, "gains");
            Due.is("a fault", x.text(), FULL);
            Due.is("the tape stays", x.count(5), 5);
            feedAll(x, " 7" + REST);
            Due.is("none", x.text(), FULL);
            Due.is("the tape stays", x.count(5), 25);
            Due.is("six", x.count(3), 6);
            feedAll(x, " ".repeat(135));
            Due.is("it is full at 160", x.feed(1, ' ', 0, 0, 0, 0), FULL);
        });
        edge(8, "FULL (ahead of the FAULT; then THE TAPE stays).", "the last text stays as it was", () -> {
            DoorOfLuck x = town(0, 1);
            x.person(SOUL, 0);
            for (int t = 1; t < 6; t++) read(x, "gains " + t + REST);
            read(x, "gains 7" + REST);
            for (int t = 0; t < 6; t++) {
                x.force(t);
                Due.is("text " + t, x.asks(0, 0, 0), t == 0 ? 3 : t);
            }
        });
    }

    private static void promise9() {
        edge(9, "A TEXT is THE LAW: which was.", "the first, the last, the same again", () -> {
            DoorOfLuck x = new DoorOfLuck();
            Due.is("force(0)", x.force(0), 0);
            for (int t = 1; t < 6; t++) read(x, "gains " + t + REST);
            Due.is("force(5)", x.force(5), 0);
            Due.is("force(5)", x.force(5), 5);
            Due.is("force(0)", x.force(0), 5);
            Due.is("the law", x.count(4), 0);
        });
        edge(9, "BAD.", "below 0, above the last one", () -> {
            DoorOfLuck x = new DoorOfLuck();
            refused("force, of one", BAD, outside(0, 0), x::force);
            read(x, "gains");
            Due.is("a fault is none", x.force(1), BAD);
            for (int t = 1; t < 6; t++) {
                read(x, "gains " + t + REST);
                refused("force", BAD, outside(0, t), x::force);
            }
            Due.is("the law stays", x.count(4), 0);
        });
    }

    private static void promise10() {
        edge(10, "(any)", "a door of another house, a bricked one, one's end", () -> {
            DoorOfLuck x = town(0, 1, 4, 5, 0, 2);
            x.person(LADY, 0);
            x.brick(0, 1);
            x.put(0, 2, 2);
            for (int d = 0; d < 3; d++) {
                int so = d;
                each("door " + d, part -> x.asks(part, 0, so), 3, 1, 0);
            }
        });
        edge(10, "dares (1, 0)", "what isn't 0 is 1, no more", () -> {
            DoorOfLuck x = town(0, 1);
            x.person(SOUL, 0);
            law(x, "gains 1;dares 7;leaves 1;");
            Due.is("7", x.asks(1, 0, 0), 1);
            law(x, "gains 1;dares -7;leaves 1;");
            Due.is("-7", x.asks(1, 0, 0), 1);
            law(x, "gains 1;dares 0;leaves 1;");
            Due.is("0", x.asks(1, 0, 0), 0);
        });
        edge(10, "-1000: none such.", "no such part, nobody, no such door", () -> {
            DoorOfLuck x = rowOfHouses();
            x.person(SOUL, 0);
            x.person(SOUL, 0);
            refused("part", -1000, outside(0, 2), v -> x.asks(v, 0, 0));
            refused("who", -1000, outside(0, 1), v -> x.asks(0, v, 0));
            refused("door", -1000, outside(0, 2), v -> x.asks(0, 0, v));
            Due.is("the last ones", x.asks(2, 1, 2), 0);
            Due.is("nobody at all", town(0, 1).asks(0, 0, 0), -1000);
        });
    }
}
