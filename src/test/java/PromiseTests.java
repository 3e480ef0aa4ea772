/** For each promise what the document says of it: ordinary inputs, its edges, refusals and which comes first. */
public final class PromiseTests extends Towns {
    private PromiseTests() {
    }

    /** A text's value: what it gains, of a SOUL with LUCK 40 in HOUSE 2, MORE 6, DAY 9, of DOOR 1, who OPENED door 0. */
    private static long gains(String e) {
        DoorOfLuck x = town(0, 2, 2, 1);
        x.person(SOUL + 6, 0);
        x.open(0, 0);
        x.put(0, 1, 40);
        x.dawn(9);
        int t = read(x, "gains " + e + ";dares 1;leaves 0;");
        if (t < 0) return t;
        x.force(t);
        return x.asks(0, 0, 1);
    }

    private static void aFault(String text, int place) {
        DoorOfLuck x = new DoorOfLuck();
        Due.is("text() of '" + text + "'", read(x, text), -100 - place);
        Due.is("count(5) behind it", x.count(5), 0);
        Due.is("count(3) behind it", x.count(3), 1);
    }

    // ---- the town, the law, people

    private static void p01() {
        DoorOfLuck x = new DoorOfLuck();
        Due.is("count(0)", x.count(0), 0);
        Due.is("count(1)", x.count(1), 0);
        Due.is("hung(0, 0)", x.hung(0, 0), WHO);
        Due.is("told(0, 0)", x.told(0, 0), WHO);
        for (int s = 0; s < 4; s++) Due.is("cell", x.cell(s, 0, 0), MISSING);
        Due.is("NONE", DoorOfLuck.NONE, NONE);
        Due.is("BAD", DoorOfLuck.BAD, BAD);
        Due.is("STATE", DoorOfLuck.STATE, STATE);
        Due.is("FULL", DoorOfLuck.FULL, FULL);
        Due.is("NO", DoorOfLuck.NO, NO);
    }

    private static void p02() {
        DoorOfLuck x = rowOfHouses();
        x.person(SOUL, 0);
        x.person(SOUL, 0);
        x.dawn(7);
        read(x, "gains 1;dares 1;leaves 1;");
        x.force(1);
        x.feed(4, 'a', 'b', 'c', 'd', 'e');
        int[] due = {2, 3, 7, 2, 1, 4};
        for (int what = 0; what < 6; what++) Due.is("count(" + what + ")", x.count(what), due[what]);
        Due.is("count(-1)", x.count(-1), BAD);
        Due.is("count(6)", x.count(6), BAD);
        int[] first = {0, 0, 0, 1, 0, 0};
        for (int what = 0; what < 6; what++) Due.is("count", new DoorOfLuck().count(what), first[what]);
    }

    private static void p03() {
        DoorOfLuck x = new DoorOfLuck();
        Due.is("dawn(999)", x.dawn(999), 0);
        Due.is("dawn(1000)", x.dawn(1000), BAD);
        Due.is("dawn(-1)", x.dawn(-1), BAD);
        Due.is("dawn(0)", x.dawn(0), 999);
        Due.is("count(2)", x.count(2), 0);
    }

    private static void p04() {
        DoorOfLuck x = new DoorOfLuck();
        Due.is("door(0, 7)", x.door(0, 7), 0);
        Due.is("door(7, 0), a second between the two", x.door(7, 0), 1);
        Due.is("door(8, 0)", x.door(8, 0), BAD);
        Due.is("door(0, 8)", x.door(0, 8), BAD);
        Due.is("door(-1, 0)", x.door(-1, 0), BAD);
        Due.is("door(0, -1)", x.door(0, -1), BAD);
        Due.is("door(3, 3)", x.door(3, 3), BAD);
        for (int d = 2; d < 12; d++) Due.is("door", x.door(1, 2), d);
        Due.is("a thirteenth", x.door(1, 2), FULL);
        Due.is("BAD ahead of FULL", x.door(1, 1), BAD);
        Due.is("count(1)", x.count(1), 12);
    }

    private static void p05() {
        DoorOfLuck x = rowOfHouses();
        Due.is("brick(2, 1)", x.brick(2, 1), 0);
        Due.is("brick(2, 1)", x.brick(2, 1), 1);
        Due.is("others aren't", x.hung(1, 2), 0);
        Due.is("brick(2, 0)", x.brick(2, 0), 1);
        Due.is("brick(2, 0)", x.brick(2, 0), 0);
        Due.is("brick(3, 2)", x.brick(3, 2), WHO);
        Due.is("brick(-1, 0)", x.brick(-1, 0), WHO);
        Due.is("brick(0, 2)", x.brick(0, 2), VALUE);
        Due.is("brick(0, -1)", x.brick(0, -1), VALUE);
        Due.is("hung(0, 2)", x.hung(0, 2), 0);
    }

    private static void p06() {
        DoorOfLuck x = town(5, 3, 3, 4);
        x.person(SOUL, 500);
        x.person(SOUL, 300);
        x.person(SOUL, 400);
        x.put(0, 2, 1);
        x.put(2, 2, 1);
        x.open(0, 0);
        x.open(1, 0);
        x.brick(0, 1);
        int[] due = {5, 3, 1, 0, 3};
        for (int what = 0; what < 5; what++) Due.is("hung(0, " + what + ")", x.hung(0, what), due[what]);
        Due.is("hung(1, 3)", x.hung(1, 3), 5);
        Due.is("hung(1, 4)", x.hung(1, 4), 0);
        Due.is("hung(0, 5)", x.hung(0, 5), VALUE);
        Due.is("hung(0, -1)", x.hung(0, -1), VALUE);
        Due.is("hung(2, 5)", x.hung(2, 5), WHO);
        Due.is("hung(-1, 0)", x.hung(-1, 0), WHO);
    }

    private static void p07() {
        DoorOfLuck x = new DoorOfLuck();
        Due.is("feed 3", x.feed(3, 'a', 255, 0, 1, 1), 3);
        Due.is("feed 0", x.feed(0, 1, 1, 1, 1, 1), BAD);
        Due.is("feed 6", x.feed(6, 1, 1, 1, 1, 1), BAD);
        for (int i = 0; i < 5; i++) {
            int[] b = {1, 1, 1, 1, 1};
            b[i] = 256;
            Due.is("feed a 256 at " + i, x.feed(1, b[0], b[1], b[2], b[3], b[4]), BAD);
            b[i] = -1;
            Due.is("feed a -1 at " + i, x.feed(1, b[0], b[1], b[2], b[3], b[4]), BAD);
        }
        for (int n = 8; n <= 158; n += 5) Due.is("feed 5", x.feed(5, 'a', 'a', 'a', 'a', 'a'), n);
        Due.is("feed 3 into a room of two", x.feed(3, 'a', 'a', 'a', 'a', 'a'), FULL);
        Due.is("count(5)", x.count(5), 158);
        Due.is("BAD ahead of FULL", x.feed(5, 'a', 'a', 'a', 'a', 256), BAD);
        Due.is("feed 2", x.feed(2, 'a', 'a', 'a', 'a', 'a'), 160);
        Due.is("feed 1", x.feed(1, 'a', 'a', 'a', 'a', 'a'), FULL);

        DoorOfLuck order = new DoorOfLuck();
        order.feed(5, 'g', 'a', 'i', 'n', 's');
        order.feed(4, ' ', '7', ';', 'd', 'x');
        order.feed(3, 'a', 'r', 'e', 'x', 'x');
        order.feed(2, 's', '(', 'x', 'x', 'x');
        order.feed(1, '1', 'x', 'x', 'x', 'x');
        feedAll(order, ");leaves 0;");
        Due.is("the bytes come one by one", order.text(), 1);
    }

    private static void p08texts() {
        DoorOfLuck x = new DoorOfLuck();
        for (int t = 1; t < 6; t++) {
            Due.is("text()", read(x, "gains 1;dares 1;leaves 1;"), t);
            Due.is("the tape is empty", x.count(5), 0);
            Due.is("count(3)", x.count(3), t + 1);
        }
        feedAll(x, "gains");
        Due.is("a seventh, ahead of its fault", x.text(), FULL);
        Due.is("then the tape stays", x.count(5), 5);
        Due.is("the law stays", x.count(4), 0);
        Due.is("no blanks at all", read(new DoorOfLuck(), "gains1;dares0;leaves99;"), 1);
        Due.is("blanks all about", read(new DoorOfLuck(), " \ngains\n 1 ; dares not  not 0 ;\nleaves ( 1 ) ; \n"), 1);
        Due.is("an expression as long as can be",
                read(new DoorOfLuck(), "gains 1" + "+1".repeat(66) + ";dares 1;leaves 0;"), 1);
    }

    private static void p08says() {
        Due.is("luck", gains("luck"), 40);
        Due.is("door", gains("door"), 1);
        Due.is("house", gains("house"), 2);
        Due.is("day", gains("day"), 9);
        Due.is("opened", gains("opened"), 1);
        Due.is("more", gains("more"), 6);
        Due.is("1+2*3", gains("1+2*3"), 7);
        Due.is("20-7-3", gains("20-7-3"), 10);
        Due.is("(1+2)*3", gains("(1+2)*3"), 9);
        Due.is("-2*3", gains("-2*3"), -6);
        Due.is("2*-3", gains("2*-3"), -6);
        Due.is("5--3", gains("5--3"), 8);
        Due.is("--3", gains("--3"), 3);
        Due.is("- (1+1)*5", gains("- (1+1)*5"), -10);
        Due.is("1+1<3", gains("1+1<3"), 1);
        Due.is("3<1+1", gains("3<1+1"), 0);
        Due.is("2<2", gains("2<2"), 0);
        Due.is("-1<0", gains("-1<0"), 1);
        Due.is("1+1=2", gains("1+1=2"), 1);
        Due.is("1=2", gains("1=2"), 0);
        Due.is("not 5", gains("not 5"), 0);
        Due.is("not 0", gains("not 0"), 1);
        Due.is("not 2<1", gains("not 2<1"), 1);
        Due.is("not 0+7", gains("not 0+7"), 0);
        Due.is("not not 7", gains("not not 7"), 1);
        Due.is("5 and 7", gains("5 and 7"), 1);
        Due.is("1 and 1", gains("1 and 1"), 1);
        Due.is("5 and 0", gains("5 and 0"), 0);
        Due.is("0 or 7", gains("0 or 7"), 1);
        Due.is("0 or 0", gains("0 or 0"), 0);
        Due.is("1 or 1 and 0", gains("1 or 1 and 0"), 1);
        Due.is("(1 or 1) and 0", gains("(1 or 1) and 0"), 0);
        Due.is("not 0 and 0", gains("not 0 and 0"), 0);
        Due.is("-2 and 1", gains("-2 and 1"), 1);
        Due.is("(1<2)*5", gains("(1<2)*5"), 5);
        Due.is("0042", gains("0042"), 42);
        Due.is("to the bound", gains("9999"), 99);
        Due.is("to the other bound", gains("-9999"), -99);
        // 8192 * 8192 * 64 = 2 to the 32nd; 4096 * 4096 * 128 = 2 to the 31st.
        Due.is("wraps", gains("8192*8192*64+5"), 5);
        Due.is("wraps below 0", gains("4096*4096*128<0"), 1);
        Due.is("the least int is its own negative", gains("-(4096*4096*128)<0"), 1);
    }

    private static void p08faults() {
        aFault("", 0);
        aFault("  ", 2);
        aFault("gains", 5);
        aFault("gains ", 6);
        aFault("dares 1;", 0);
        aFault(" luck", 1);
        aFault("gains 1", 7);
        aFault("gains ;", 6);
        aFault("gains 1;leaves 1;", 8);
        aFault("gains 1;dares 1;leaves 0", 24);
        aFault("gains 1;dares 1;leaves 0;;", 25);
        aFault("gains 1;dares 1;leaves 0; 7", 26);
        aFault("gains 1;dares 1;leaves 0;\n@", 26);
        aFault("gains 12345;", 6);
        aFault("gains 00001;", 6);
        aFault("gains 1 2;", 8);
        aFault("gains 12luck;", 8);
        aFault("gains lucks;", 6);
        aFault("gains luckz;", 6);
        aFault("gains muck;", 6);
        aFault("gains luc;", 6);
        aFault("gains Luck;", 6);
        aFault("gains 1\t;", 7);
        aFault("gains 1 @;", 8);
        aFault("gains (1;dares", 8);
        aFault("gains (1", 8);
        aFault("gains 1);", 7);
        aFault("gains 1+;", 8);
        aFault("gains 1++1;", 8);
        aFault("gains *1;", 6);
        aFault("gains 1<2<3;", 9);
        aFault("gains 1=2<3;", 9);
        aFault("gains 1+not 1;", 8);
        aFault("gains -not 1;", 7);
        aFault("gains 1 not 1;", 8);
        aFault("gains or;", 6);
        aFault("gains 1 or;", 10);
        aFault("gains 1 and and 1;", 12);
        aFault("gains 1 orand 1;", 8);
        aFault("gains dares;", 6);
        // The first fault counts, not one that stands behind it.
        aFault("gains ) 12345 @;", 6);
    }

    private static void p08open() {
        Due.is("five (", gains("(((((7)))))"), 7);
        aFault("gains ((((((7))))));", 11);
        Due.is("five -", gains("-----7"), -7);
        aFault("gains ------7;", 11);
        Due.is("five not", gains("not not not not not 0"), 1);
        aFault("gains not not not not not not 0;", 26);
        aFault("gains (((((-7)))));", 11);
        aFault("gains (((((not 7)))));", 11);
        aFault("gains not -(-(-7));", 14);
        Due.is("not and four", gains("not -(-(7))"), 0);
        // Of each of six levels all five operands wait: 0 or 1 and 2 < 3 + 4 * ( .. ).
        Due.is("as much as can wait", gains("0or 1and 2<3+4*(".repeat(5) + "0or 1and 2<3+4*5" + ")".repeat(5)), 1);
        Due.is("and so below 0", gains("9-1*(".repeat(5) + "7" + ")".repeat(5)), 2);
        // Closed ones don't count.
        Due.is("closed (", gains("(((((1)))))+(((((2)))))"), 3);
        Due.is("closed -", gains("-----1+-----2"), -3);
        Due.is("a - ends with its one", gains("-((((-1))))"), SIXTH_AT_11);
        Due.is("a - ends ahead of a *", gains("-----1*(((((2)))))"), -2);
        Due.is("a - between two opens nothing", gains("(((((3-1)))))"), 2);
        Due.is("not ends with its own", gains("not not not not not 1 or (((((1)))))"), 1);
        aFault("gains not not not not not 1+(1);", 28);
    }

    // -((((-1)))): a - and four ( are open as the second - comes, at byte 11 of "gains -((((-1)))) ..".
    private static final int SIXTH_AT_11 = -111;

    private static void p09() {
        DoorOfLuck x = new DoorOfLuck();
        read(x, "gains 8;dares 1;leaves 0;");
        Due.is("force(1)", x.force(1), 0);
        Due.is("force(2)", x.force(2), BAD);
        Due.is("force(-1)", x.force(-1), BAD);
        Due.is("count(4)", x.count(4), 1);
        x.door(0, 1);
        x.person(SOUL, 10);
        Due.is("it is the law", x.open(0, 0), 18);
        Due.is("force(0)", x.force(0), 1);
        Due.is("the first is again", x.open(0, 0), 21);
    }

    private static void p10() {
        DoorOfLuck x = town(0, 1, 4, 5);
        x.person(GYPSY, 50);
        Due.is("the first law gains", x.asks(0, 0, 0), 3);
        Due.is("dares", x.asks(1, 0, 0), 1);
        Due.is("leaves", x.asks(2, 0, 0), 0);
        law(x, "gains 100;dares 0-door;leaves 100;");
        Due.is("gains at most 99", x.asks(0, 0, 0), 99);
        Due.is("dares not by 0", x.asks(1, 0, 0), 0);
        Due.is("dares by what isn't 0, of a door afar", x.asks(1, 0, 1), 1);
        Due.is("leaves at most 99", x.asks(2, 0, 0), 99);
        law(x, "gains 0-100;dares 1;leaves 0-1;");
        Due.is("gains at least -99", x.asks(0, 0, 0), -99);
        Due.is("leaves at least 0", x.asks(2, 0, 0), 0);
        x.brick(0, 1);
        Due.is("a bricked one", x.asks(1, 0, 0), 1);
        Due.is("part -1", x.asks(-1, 0, 0), -1000);
        Due.is("part 3", x.asks(3, 0, 0), -1000);
        Due.is("nobody", x.asks(0, 1, 0), -1000);
        Due.is("nobody", x.asks(0, -1, 0), -1000);
        Due.is("no door", x.asks(0, 0, 2), -1000);
        Due.is("no door", x.asks(0, 0, -1), -1000);
    }

    private static void p11() {
        DoorOfLuck x = new DoorOfLuck();
        Due.is("person(59, 799)", x.person(59, 799), 0);
        int[] due = {7, 99, NONE, 5, 9, 0};
        for (int what = 0; what < 6; what++) Due.is("told(0, " + what + ")", x.told(0, what), due[what]);
        Due.is("person(60, 0)", x.person(60, 0), BAD);
        Due.is("person(-1, 0)", x.person(-1, 0), BAD);
        Due.is("person(0, 800)", x.person(0, 800), BAD);
        Due.is("person(0, -1)", x.person(0, -1), BAD);
        for (int p = 1; p < 6; p++) {
            Due.is("person", x.person(10 * (p - 1) + p, 100 * p + p), p);
            Due.is("kind", x.told(p, 3), p - 1);
            Due.is("more", x.told(p, 4), p);
            Due.is("house", x.told(p, 0), p);
            Due.is("luck", x.told(p, 1), p);
        }
        Due.is("a seventh", x.person(0, 0), FULL);
        Due.is("BAD ahead of FULL", x.person(0, 800), BAD);
    }

    private static void p12() {
        DoorOfLuck x = rowOfHouses();
        x.person(SOUL, 0);
        Due.is("put(0, 0, 7)", x.put(0, 0, 7), 0);
        Due.is("put(0, 0, 0)", x.put(0, 0, 0), 7);
        Due.is("put(0, 1, 99)", x.put(0, 1, 99), 0);
        Due.is("put(0, 1, 0)", x.put(0, 1, 0), 99);
        Due.is("put(0, 2, 2)", x.put(0, 2, 2), NONE);
        Due.is("put(0, 2, -1)", x.put(0, 2, -1), 2);
        Due.is("told(0, 2)", x.told(0, 2), NONE);
        int[][] bad = {{0, 8}, {0, -1}, {1, 100}, {1, -1}, {2, 3}, {2, -2}, {3, 0}, {-1, 0}};
        for (int[] b : bad) Due.is("put(0, " + b[0] + ", " + b[1] + ")", x.put(0, b[0], b[1]), VALUE);
        Due.is("put(1, 0, 8)", x.put(1, 0, 8), WHO);
        Due.is("put(-1, 0, 0)", x.put(-1, 0, 0), WHO);
    }

    private static void p13() {
        DoorOfLuck x = rowOfHouses();
        x.person(LADY + 3, 110);
        x.put(0, 2, 2);
        x.open(0, 0);
        x.open(0, 0);
        int[] due = {1, 12, 2, 2, 3, 1, 6, 7};
        for (int what = 0; what < 8; what++) Due.is("told(0, " + what + ")", x.told(0, what), due[what]);
        x.put(0, 1, 0);
        Due.is("told(0, 6) without luck", x.told(0, 6), 1);
        Due.is("told(0, 6) of doors that nobody opened", opensNothing().told(0, 6), 7);
        x.put(0, 0, 7);
        Due.is("told(0, 7) of a house without doors", x.told(0, 7), 128);
        DoorOfLuck far = town(6, 7, 5, 6, 4, 5, 3, 4, 2, 3, 1, 2, 0, 1);
        far.person(SOUL, 0);
        Due.is("told(0, 7) of eight houses in a row", far.told(0, 7), 255);
        far.put(0, 0, 7);
        Due.is("and from the other end", far.told(0, 7), 255);
        Due.is("told(0, 8)", x.told(0, 8), VALUE);
        Due.is("told(0, -1)", x.told(0, -1), VALUE);
        Due.is("told(1, 8)", x.told(1, 8), WHO);
        Due.is("told(-1, 0)", x.told(-1, 0), WHO);
    }

    private static DoorOfLuck opensNothing() {
        DoorOfLuck x = rowOfHouses();
        x.person(SOUL, 1);
        return x;
    }

    // ---- opening

    private static void p14() {
        DoorOfLuck x = rowOfHouses();
        x.person(SOUL, 97);
        Due.is("not of this house", x.open(0, 1), STATE);
        Due.is("open(0, 0), to the bound", x.open(0, 0), 99);
        Due.is("one is on its other side", x.told(0, 0), 1);
        Due.is("one opened it", x.told(0, 5), 1);
        x.put(0, 2, 1);
        Due.is("one's end", x.open(0, 1), 0);
        Due.is("one is through", x.told(0, 0), 2);
        Due.is("one opened both", x.told(0, 5), 3);
        Due.is("and back, by the side told last", x.open(0, 1), 0);
        Due.is("one is back", x.told(0, 0), 1);
        x.brick(0, 1);
        Due.is("a bricked one", x.open(0, 0), STATE);
        Due.is("open(0, 3)", x.open(0, 3), WHICH_DOOR);
        Due.is("open(0, -1)", x.open(0, -1), WHICH_DOOR);
        Due.is("open(1, 3)", x.open(1, 3), WHO);
        Due.is("open(-1, 0)", x.open(-1, 0), WHO);
    }

    /** What one of a kind gains by a door, the text saying so much. */
    private static int gained(int kindMore, int luck, int said) {
        DoorOfLuck x = town(0, 1);
        law(x, "gains " + said + ";dares 1;leaves 0;");
        x.person(kindMore, luck);
        return x.open(0, 0) - luck;
    }

    private static void kindsGain() {
        Due.is("a soul gains 5", gained(SOUL + 9, 50, 5), 5);
        Due.is("a soul gains -5", gained(SOUL + 9, 50, -5), -5);
        Due.is("a footman gains more more", gained(FOOTMAN + 4, 50, 5), 9);
        Due.is("a footman, below 0", gained(FOOTMAN + 4, 50, -9), -5);
        Due.is("a lady gains half", gained(LADY + 4, 50, 7), 3);
        Due.is("a lady gains half, cut", gained(LADY + 4, 50, -7), -3);
        Due.is("a butler as a footman", gained(BUTLER + 4, 50, 5), 9);
        Due.is("a widow as a lady from 50 on", gained(WIDOW + 4, 50, 7), 3);
        Due.is("a widow below 50", gained(WIDOW + 4, 49, 7), 10);
        Due.is("a widow below 50, below 0", gained(WIDOW + 4, 49, -7), -2);
        Due.is("a gypsy gains nothing", gained(GYPSY + 4, 50, 5), 0);
        Due.is("to the bound below", gained(SOUL, 3, -5), -3);
    }

    /** How much is left behind one's end, the text saying so much. */
    private static int left(int kindMore, int luck, int said) {
        DoorOfLuck x = town(0, 1);
        law(x, "gains 9;dares 1;leaves " + said + ";");
        x.person(kindMore, luck);
        x.put(0, 2, 0);
        return x.open(0, 0);
    }

    private static void kindsLeave() {
        Due.is("a soul", left(SOUL + 9, 50, 5), 5);
        Due.is("a footman", left(FOOTMAN + 9, 50, 5), 5);
        Due.is("a lady doesn't dare", left(LADY + 9, 50, 5), STATE);
        Due.is("a butler, 6 of 7", left(BUTLER + 6, 51, 5), 30);
        Due.is("a butler to the bound", left(BUTLER + 6, 99, 80), 99);
        Due.is("a widow doesn't dare", left(WIDOW + 9, 50, 5), STATE);
        Due.is("a gypsy doesn't dare", left(GYPSY + 9, 50, 5), STATE);
    }

    private static void kindsDare() {
        int[] all = {SOUL, FOOTMAN, LADY, BUTLER, WIDOW, GYPSY};
        int[] ifSo = {1, 1, 1, 1, 1, 1};
        int[] ifNot = {0, 1, 0, 1, 0, 1};
        int[] endIfSo = {1, 1, 0, 1, 0, 0};
        int[] endIfNot = {0, 1, 0, 1, 0, 0};
        for (int k = 0; k < 6; k++) {
            Due.is("kind " + k + ", so", dared(all[k] + 9, 1, NONE), ifSo[k]);
            Due.is("kind " + k + ", not so", dared(all[k] + 9, 0, NONE), ifNot[k]);
            Due.is("kind " + k + ", so, its end", dared(all[k] + 9, 1, 0), endIfSo[k]);
            Due.is("kind " + k + ", not so, its end", dared(all[k] + 9, 0, 0), endIfNot[k]);
        }
        DoorOfLuck x = town(0, 1);
        x.person(BUTLER + 3, 0);
        x.dawn(10);
        Due.is("a butler on his day", x.open(0, 0), STATE);
        x.dawn(9);
        Due.is("a butler on another", x.open(0, 0), 6);
        x.brick(0, 1);
        x.person(FOOTMAN, 0);
        x.person(GYPSY, 0);
        Due.is("a bricked one no footman dares", x.open(1, 0), STATE);
        Due.is("nor a gypsy", x.open(2, 0), STATE);
    }

    private static int dared(int kindMore, int said, int end) {
        DoorOfLuck x = town(0, 1);
        law(x, "gains 0;dares " + said + ";leaves 0;");
        x.person(kindMore, 0);
        x.put(0, 2, end);
        return x.open(0, 0) >= 0 ? 1 : 0;
    }

    private static void p15() {
        DoorOfLuck x = rowOfHouses();
        x.person(SOUL, 40);
        x.person(LADY, 50);
        x.put(1, 2, 0);
        Due.is("after(0, 1, 0)", x.after(0, 1, 0), 43);
        Due.is("one is there", x.told(0, 0), 1);
        Due.is("and the other one", x.told(1, 0), 1);
        Due.is("who has so much luck as before", x.told(1, 1), 50);
        Due.is("and opened nothing", x.told(1, 5), 0);
        Due.is("the one did", x.told(0, 5), 1);
        Due.is("the lady doesn't dare her end", x.after(1, 0, 0), STATE);
        Due.is("a door elsewhere", x.after(0, 1, 2), STATE);
        Due.is("after(0, 0, 0)", x.after(0, 0, 0), WHO);
        Due.is("after(2, 0, 0)", x.after(2, 0, 0), WHO);
        Due.is("after(0, 2, 3)", x.after(0, 2, 3), WHO);
        Due.is("after(0, -1, 0)", x.after(0, -1, 0), WHO);
        Due.is("after(0, 1, 3)", x.after(0, 1, 3), WHICH_DOOR);
        Due.is("after(0, 1, -1)", x.after(0, 1, -1), WHICH_DOOR);
        x.put(1, 0, 3);
        Due.is("no door ahead of two houses", x.after(0, 1, 3), WHICH_DOOR);
        Due.is("not in one house", x.after(0, 1, 1), STATE);
        Due.is("nobody moved", x.told(0, 0), 1);
        x.put(1, 0, 1);
        x.put(0, 2, 1);
        Due.is("the one's own end", x.after(0, 1, 1), 0);
        Due.is("the other one is through", x.told(1, 0), 2);
    }

    private static void p16() {
        DoorOfLuck x = rowOfHouses();
        law(x, "gains 0;dares house=door;leaves 0;");
        x.person(SOUL, 200);
        Due.is("told of where one is", x.safe(0, 2), 1);
        Due.is("safe(0, 1)", x.safe(0, 1), 0);
        x.person(FOOTMAN, 0);
        Due.is("be it where it may", x.safe(1, 2), 1);
        x.put(1, 2, 2);
        Due.is("one's end, though one dares", x.safe(1, 2), 0);
        x.brick(1, 1);
        Due.is("a bricked one", x.safe(1, 1), 0);
        Due.is("safe(2, 3)", x.safe(2, 3), WHO);
        Due.is("safe(-1, 0)", x.safe(-1, 0), WHO);
        Due.is("safe(0, 3)", x.safe(0, 3), WHICH_DOOR);
        Due.is("safe(0, -1)", x.safe(0, -1), WHICH_DOOR);
    }

    // ---- ways

    private static void p17() {
        // Two ways of two doors from 0 to 3 (0 4, 1 3), a double last door (5), and a detour of three.
        DoorOfLuck x = town(0, 1, 0, 2, 0, 4, 2, 3, 1, 3, 3, 1, 4, 5, 5, 3);
        x.person(SOUL, 0);
        Due.is("how many", x.way(0, 3, 0), 2);
        Due.is("the last one is the least: 1 3", x.way(0, 3, 1), 2 * 17 + 4);
        Due.is("to where one is", x.way(0, 0, 0), 0);
        Due.is("to where one is, as a number", x.way(0, 0, 1), 0);
        x.brick(3, 1);
        Due.is("then 0 4", x.way(0, 3, 1), 1 * 17 + 5);
        x.put(0, 2, 0);
        Due.is("not by one's end: 2 6 7", x.way(0, 3, 1), (3 * 17 + 7) * 17 + 8);
        Due.is("three", x.way(0, 3, 0), 3);
        Due.is("there is none", x.way(0, 7, 0), NONE);
        Due.is("no number", x.way(0, 7, 1), NONE);
        Due.is("way(1, 8, 0)", x.way(1, 8, 0), WHO);
        Due.is("way(-1, 0, 0)", x.way(-1, 0, 0), WHO);
        Due.is("way(0, 8, 0)", x.way(0, 8, 0), VALUE);
        Due.is("way(0, -1, 0)", x.way(0, -1, 0), VALUE);
        Due.is("way(0, 0, 2)", x.way(0, 0, 2), VALUE);
        Due.is("the refusal of a number ahead of -1", x.way(0, 7, -1), VALUE);

        DoorOfLuck far = town(0, 1, 1, 2, 2, 3, 3, 4, 4, 5, 5, 6, 1, 0, 2, 1, 3, 2, 4, 3, 5, 4, 6, 7);
        for (int d = 0; d < 6; d++) far.brick(d, 0);
        far.person(SOUL, 0);
        int number = 0;
        for (int d : new int[] {0, 1, 2, 3, 4, 5, 11}) number = 17 * number + d + 1;
        Due.is("seven doors", far.way(0, 7, 0), 7);
        Due.is("seven doors as a number", far.way(0, 7, 1), number);
        far.put(0, 0, 5);
        Due.is("from another house", far.way(0, 7, 0), 2);
        Due.is("from another house, as a number", far.way(0, 7, 1), 6 * 17 + 12);
        Due.is("the other way round", far.way(0, 4, 1), 5);
    }

    private static void p18() {
        DoorOfLuck x = rowOfHouses();
        x.person(LADY, 0);
        x.person(LADY, 0);
        x.person(SOUL, 300);
        x.put(0, 2, 0);
        x.put(1, 2, 1);
        Due.is("one alone", x.together(1, 3), NONE);
        Due.is("the other one alone", x.together(2, 3), NONE);
        Due.is("both: each opens the other's end", x.together(3, 3), 3);
        Due.is("to where they are", x.together(3, 0), 0);
        Due.is("none, nowhere", x.together(3, 7), NONE);
        Due.is("not in one house", x.together(5, 3), STATE);
        Due.is("the third alone", x.together(4, 0), 3);
        Due.is("together(0, 0)", x.together(0, 0), BAD);
        Due.is("together(8, 0)", x.together(8, 0), BAD);
        Due.is("together(-1, 0)", x.together(-1, 0), BAD);
        Due.is("together(1, 8)", x.together(1, 8), BAD);
        Due.is("BAD ahead of STATE", x.together(5, -1), BAD);
    }

    private static void p19() {
        DoorOfLuck x = rowOfHouses();
        x.person(LADY, 0);
        x.put(0, 2, 1);
        x.person(SOUL, 700);
        x.person(FOOTMAN, 600);
        Due.is("the first of like ones, wherever", x.friend(0, 0), 1);
        Due.is("to how many", x.friend(0, 1), 4);
        x.put(1, 2, 1);
        Due.is("the one with whom most", x.friend(0, 0), 2);
        Due.is("from where she is", x.friend(1, 0), NONE);
        Due.is("as so", x.friend(1, 1), 1);
        x.put(1, 0, 3);
        Due.is("the one who dares her end", x.friend(1, 0), 2);
        Due.is("to all four", x.friend(1, 1), 4);
        x.brick(1, 1);
        Due.is("to no more than alone", x.friend(1, 0), NONE);
        Due.is("to no more than alone", x.friend(1, 1), 2);
        x.brick(1, 0);
        Due.is("friend(3, 2)", x.friend(3, 2), WHO);
        Due.is("friend(-1, 0)", x.friend(-1, 0), WHO);
        Due.is("friend(0, 2)", x.friend(0, 2), VALUE);
        Due.is("friend(0, -1)", x.friend(0, -1), VALUE);
        DoorOfLuck first = rowOfHouses();
        first.person(SOUL, 500);
        first.person(LADY, 100);
        first.put(1, 2, 0);
        Due.is("the first of all may be the one", first.friend(1, 0), 0);
        Due.is("to all four", first.friend(1, 1), 4);
        DoorOfLuck alone = rowOfHouses();
        alone.person(SOUL, 0);
        Due.is("nobody else", alone.friend(0, 0), NONE);
        Due.is("so many alone", alone.friend(0, 1), 4);
    }

    // ---- what is best

    private static void p20() {
        DoorOfLuck x = rowOfHouses();
        for (int p = 0; p < 5; p++) x.person(SOUL, 0);
        Due.is("of nobody", x.worst(0), NONE);
        Due.is("of none", x.worst(1), 0);
        x.put(0, 2, 2);
        x.put(1, 2, 1);
        Due.is("the first of like ones", x.worst(0), 1);
        x.put(2, 2, 2);
        Due.is("of most", x.worst(0), 2);
        Due.is("of how many", x.worst(1), 2);
        for (int p = 0; p < 3; p++) x.put(p, 2, 0);
        Due.is("door 0, too", x.worst(0), 0);
        Due.is("of three", x.worst(1), 3);
        Due.is("worst(2)", x.worst(2), BAD);
        Due.is("worst(-1)", x.worst(-1), BAD);
    }

    private static void p21() {
        DoorOfLuck x = town(0, 1, 1, 2, 2, 3, 0, 4);
        x.person(SOUL, 0);
        x.person(SOUL, 0);
        Due.is("none", x.mason(0), NONE);
        Due.is("as so", x.mason(1), 10);
        x.brick(0, 1);
        x.brick(3, 1);
        Due.is("the one behind which is most", x.mason(0), 0);
        Due.is("to how many", x.mason(1), 8);
        Due.is("still bricked", x.hung(0, 2), 1);
        x.brick(2, 1);
        x.brick(1, 1);
        Due.is("the first of like ones", x.mason(0), 0);
        Due.is("each one's, together", x.mason(1), 4);
        x.put(0, 2, 0);
        Due.is("an end is no way", x.mason(0), 3);
        x.put(0, 0, 3);
        x.put(1, 0, 3);
        Due.is("from where they are", x.mason(0), 2);
        Due.is("mason(2)", x.mason(2), BAD);
        Due.is("mason(-1)", x.mason(-1), BAD);
    }

    private static void p22() {
        DoorOfLuck x = town(0, 1, 1, 2, 0, 2, 2, 3);
        x.person(SOUL, 0);
        Due.is("without an end", x.watch(0, 0), 0);
        x.put(0, 2, 3);
        Due.is("its end, as there are two ways", x.watch(0, 0), 8);
        Due.is("one", x.watch(0, 1), 1);
        x.brick(2, 1);
        Due.is("the least of those that part one from it", x.watch(0, 0), 1);
        x.put(0, 0, 3);
        Due.is("on its other side", x.watch(0, 0), 8);
        x.put(0, 0, 0);
        x.brick(3, 1);
        Due.is("a bricked end", x.watch(0, 0), 0);
        Due.is("no door", x.watch(0, 1), 0);
        Due.is("watch(1, 2)", x.watch(1, 2), WHO);
        Due.is("watch(-1, 0)", x.watch(-1, 0), WHO);
        Due.is("watch(0, 2)", x.watch(0, 2), VALUE);
        Due.is("watch(0, -1)", x.watch(0, -1), VALUE);
    }

    private static void p23() {
        DoorOfLuck x = rowOfHouses();
        Due.is("nobody", x.doomed(), 0);
        x.person(SOUL, 0);
        x.person(LADY, 0);
        x.person(FOOTMAN, 300);
        x.person(GYPSY, 0);
        x.person(SOUL, 700);
        for (int p = 0; p < 5; p++) x.put(p, 2, 1);
        Due.is("a soul and a footman", x.doomed(), 5);
        x.put(0, 2, NONE);
        Due.is("without an end", x.doomed(), 4);
        x.brick(2, 1);
        Due.is("a footman who can't come there", x.doomed(), 0);
    }

    private static void p24() {
        DoorOfLuck x = new DoorOfLuck();
        Due.is("nobody", x.share(0), NO);
        x.person(SOUL, 0);
        Due.is("0 of 99", x.share(0), 0);
        Due.is("0 of 99, in lowest terms", x.share(1), 1);
        x.put(0, 1, 66);
        x.person(SOUL, 33);
        x.person(SOUL, 11);
        Due.is("110 of 297", x.share(0), 10);
        Due.is("110 of 297", x.share(1), 27);
        Due.is("share(2)", x.share(2), NO);
        Due.is("share(-1)", x.share(-1), NO);
        for (int p = 0; p < 3; p++) x.put(p, 1, 99);
        Due.is("all of it", x.share(0), 1);
        Due.is("all of it", x.share(1), 1);
    }

    // ---- walks

    private static void p25() {
        DoorOfLuck x = rowOfHouses();
        x.person(SOUL, 40);
        x.put(0, 2, 1);
        // 2 isn't of the house; 0, 1, 1, 0 are opened, the second and third of these being the end.
        row(x, 0, INTS, 2, 0, 1, 1, 0);
        Due.is("luck", x.walk(0, 0, 0), 3);
        Due.is("the house", x.walk(0, 0, 1), 0);
        Due.is("how many", x.walk(0, 0, 2), 4);
        Due.is("the how manieth is the end", x.walk(0, 0, 3), 2);
        Due.is("in thought", x.told(0, 1), 40);
        Due.is("in thought", x.told(0, 5), 0);
        Due.is("in thought", x.count(2), 0);
        row(x, 1, BYTES, 0, 0);
        Due.is("not the end", x.walk(1, 0, 3), NONE);
        x.sheet(2, SHORTS, 0);
        Due.is("no doors: luck", x.walk(2, 0, 0), 40);
        Due.is("no doors: how many", x.walk(2, 0, 2), 0);
        Due.is("walk(4, 0, 0)", x.walk(4, 0, 0), BAD);
        Due.is("walk(-1, 0, 0)", x.walk(-1, 0, 0), BAD);
        Due.is("walk(3, 1, 0)", x.walk(3, 1, 0), MISSING);
        row(x, 1, INTS, 0, 3);
        Due.is("it tells what is no door", x.walk(1, 1, 4), BAD);
        row(x, 1, INTS, -1);
        Due.is("nor is -1", x.walk(1, 0, 0), BAD);
        Due.is("walk(0, 1, 4)", x.walk(0, 1, 4), WHO);
        Due.is("walk(0, 0, 4)", x.walk(0, 0, 4), VALUE);
        Due.is("walk(0, 0, -1)", x.walk(0, 0, -1), VALUE);
        law(x, "gains opened;dares 1;leaves 0;");
        x.put(0, 2, NONE);
        row(x, 0, INTS, 0, 1, 1, 1);
        Due.is("opened in thought: 0, 1, 2, 2", x.walk(0, 0, 0), 45);
    }

    private static void p26() {
        DoorOfLuck x = rowOfHouses();
        x.person(SOUL, 40);
        row(x, 0, INTS, 2, 0, 1);
        Due.is("goes(0, 0)", x.goes(0, 0), 46);
        Due.is("truly", x.told(0, 0), 2);
        Due.is("truly", x.told(0, 5), 3);
        Due.is("a day", x.count(2), 1);
        x.sheet(1, BYTES, 0);
        Due.is("nowhere", x.goes(1, 0), 46);
        Due.is("a day still", x.count(2), 2);
        Due.is("goes(4, 0)", x.goes(4, 0), BAD);
        Due.is("goes(3, 0)", x.goes(3, 0), MISSING);
        x.dawn(999);
        row(x, 1, INTS, 7);
        Due.is("no door", x.goes(1, 1), BAD);
        Due.is("nobody", x.goes(0, 1), WHO);
        Due.is("the last day", x.goes(0, 0), STATE);
        Due.is("nothing went", x.told(0, 0), 2);
        x.dawn(998);
        law(x, "gains day-990;dares 1;leaves 0;");
        row(x, 0, INTS, 1, 1);
        Due.is("all by the day as it was", x.goes(0, 0), 62);
        Due.is("the last day is due", x.count(2), 999);
    }

    // ---- told walks

    private static void p27() {
        DoorOfLuck x = rowOfHouses();
        x.person(SOUL, 40);
        row(x, 0, INTS, 0, 2, 1);
        row(x, 1, BYTES, 43, 43, 46);
        Due.is("none", x.judge(0, 1, 0), NONE);
        x.cell(1, 2, 45);
        Due.is("the third", x.judge(0, 1, 0), 2);
        x.cell(1, 1, 44);
        Due.is("the first of two", x.judge(0, 1, 0), 1);
        row(x, 1, SHORTS, 43);
        Due.is("what it doesn't tell doesn't matter", x.judge(0, 1, 0), NONE);
        x.sheet(1, INTS, 0);
        Due.is("it tells nothing", x.judge(0, 1, 0), NONE);
        row(x, 1, INTS, 43, 43, 46, 46);
        refusalsOfTold(x, (s, told, p) -> x.judge(s, told, p), true);
        x.put(0, 1, 0);
        row(x, 2, INTS, 1, 0);
        Due.is("one sheet tells both", x.judge(2, 2, 0), 0);
    }

    interface Told {
        int asked(int s, int told, int p);
    }

    /** Sheet 0 tells doors, sheet 1 more than it, sheet 2 becomes what is no door, sheet 3 is missing. */
    private static void refusalsOfTold(DoorOfLuck x, Told call, boolean ofOne) {
        row(x, 2, INTS, 0, 12);
        x.sheet(3, -1, 0);
        Due.is("told is no sheet", call.asked(-1, 4, 9), BAD);
        Due.is("told is no sheet", call.asked(3, -1, 9), BAD);
        Due.is("s is no sheet", call.asked(4, 3, 9), BAD);
        Due.is("s is missing", call.asked(3, 1, 9), MISSING);
        Due.is("s tells no door, ahead of told missing", call.asked(2, 3, 9), BAD);
        Due.is("told is missing", call.asked(0, 3, 9), MISSING);
        Due.is("told tells more", call.asked(0, 1, 9), BAD);
        if (!ofOne) return;
        Due.is("nobody", call.asked(0, 0, 9), WHO);
        Due.is("nobody", call.asked(0, 0, -1), WHO);
    }

    /** A footman of MORE 2, LUCK 40, who goes 0, 1 and gains 5 each time; what is told fits. */
    private static DoorOfLuck toldTown() {
        DoorOfLuck x = rowOfHouses();
        x.person(FOOTMAN + 2, 40);
        row(x, 0, INTS, 0, 1);
        row(x, 1, BYTES, 45, 50);
        return x;
    }

    private static void moreToldThan0(DoorOfLuck x) {
        row(x, 1, BYTES, 1, 2, 3);
    }

    private static void p28() {
        DoorOfLuck x = toldTown();
        Due.is("a footman or a butler", x.kinds(0, 1, 0, 0), 2 + 8);
        Due.is("more is 2", x.kinds(0, 1, 0, 1), 4);
        x.dawn(2);
        Due.is("no butler on his day", x.kinds(0, 1, 0, 0), 2);
        row(x, 1, BYTES, 40, 40);
        Due.is("a gypsy", x.kinds(0, 1, 0, 0), 32 + 8);
        Due.is("no more", x.kinds(0, 1, 0, 1), 0);
        x.sheet(1, INTS, 0);
        Due.is("all kinds", x.kinds(0, 1, 0, 0), 63);
        Due.is("all mores", x.kinds(0, 1, 0, 1), 1023);
        Due.is("in thought", x.told(0, 3) * 10 + x.told(0, 4), FOOTMAN + 2);
        Due.is("sort 2", x.kinds(0, 1, 0, 2), VALUE);
        Due.is("sort -1", x.kinds(0, 1, 0, -1), VALUE);
        moreToldThan0(x);
        refusalsOfTold(x, (s, told, p) -> x.kinds(s, told, p, 9), true);
    }

    private static void p29() {
        DoorOfLuck x = toldTown();
        Due.is("house 0", x.states(0, 1, 0, 0), 1);
        Due.is("no end or door 2", x.states(0, 1, 0, 2), 4096 + 4);
        row(x, 1, BYTES, 45, 0);
        Due.is("door 1 is the end", x.states(0, 1, 0, 2), 2);
        x.put(0, 2, 1);
        Due.is("from 0 alone", x.states(0, 1, 0, 0), 1);
        row(x, 1, BYTES, 40, 40);
        Due.is("where neither door is", x.states(0, 1, 0, 0), 255 - 1 - 2 - 4);
        Due.is("in thought", x.told(0, 0) + x.told(0, 2), 1);
        for (int d = 3; d < 12; d++) x.door(0, d % 4 + 1);
        row(x, 0, INTS, 8, 0);
        row(x, 1, BYTES, 0, 5);
        Due.is("door 8 of twelve, by its end", x.states(0, 1, 0, 2), 256);
        row(x, 1, BYTES, 45);
        Due.is("any but door 8", x.states(0, 1, 0, 2), 8191 - 256);
        Due.is("what 1", x.states(0, 1, 0, 1), VALUE);
        Due.is("what 3", x.states(0, 1, 0, 3), VALUE);
        Due.is("what -1", x.states(0, 1, 0, -1), VALUE);
        moreToldThan0(x);
        refusalsOfTold(x, (s, told, p) -> x.states(s, told, p, 9), true);
    }

    private static void p30() {
        DoorOfLuck x = toldTown();
        Due.is("one", x.lucks(0, 1, 0, 0), 1);
        Due.is("40", x.lucks(0, 1, 0, 1), 40);
        row(x, 1, BYTES, 99, 99);
        Due.is("94 .. 99", x.lucks(0, 1, 0, 0), 6);
        Due.is("94", x.lucks(0, 1, 0, 1), 94);
        row(x, 1, BYTES, 4, 9);
        Due.is("none", x.lucks(0, 1, 0, 0), 0);
        Due.is("none, the least", x.lucks(0, 1, 0, 1), NONE);
        x.sheet(1, INTS, 0);
        Due.is("all", x.lucks(0, 1, 0, 0), 100);
        Due.is("0", x.lucks(0, 1, 0, 1), 0);
        Due.is("in thought", x.told(0, 1), 40);
        Due.is("what 2", x.lucks(0, 1, 0, 2), VALUE);
        Due.is("what -1", x.lucks(0, 1, 0, -1), VALUE);
        moreToldThan0(x);
        refusalsOfTold(x, (s, told, p) -> x.lucks(s, told, p, 9), true);
    }

    private static void p31() {
        DoorOfLuck x = toldTown();
        x.person(SOUL, 42);
        x.person(BUTLER + 2, 40);
        Due.is("the first and the third", x.whose(0, 1), 5);
        row(x, 1, BYTES, 45, 48);
        Due.is("the second", x.whose(0, 1), 2);
        row(x, 1, BYTES, 7);
        Due.is("nobody's", x.whose(0, 1), 0);
        moreToldThan0(x);
        refusalsOfTold(x, (s, told, p) -> x.whose(s, told), false);
        DoorOfLuck nobody = new DoorOfLuck();
        nobody.sheet(0, INTS, 0);
        Due.is("of nobody", nobody.whose(0, 0), 0);
    }

    private static void p32() {
        DoorOfLuck x = toldTown();
        read(x, "gains door+3;dares 1;leaves 0;");
        read(x, "gains 3;dares 0;leaves 9;");
        x.force(1);
        Due.is("the first and the last", x.laws(0, 1, 0), 5);
        Due.is("the law stays", x.count(4), 1);
        row(x, 1, BYTES, 45, 51);
        Due.is("the second", x.laws(0, 1, 0), 2);
        row(x, 1, BYTES, 1, 1);
        Due.is("none", x.laws(0, 1, 0), 0);
        moreToldThan0(x);
        refusalsOfTold(x, (s, told, p) -> x.laws(s, told, p), true);
    }

    private static void p33() {
        DoorOfLuck x = toldTown();
        row(x, 0, SHORTS, 0, 2, 1);
        x.sheet(1, INTS, 40);
        Due.is("film(0, 1, 0)", x.film(0, 1, 0), 3);
        Due.is("it fits", x.judge(0, 1, 0), NONE);
        Due.is("in thought", x.told(0, 1), 40);
        x.sheet(2, BYTES, 5);
        Due.is("bytes, three of them", x.copy(1, 0, 2, 0, 3), 3);
        Due.is("no fourth", x.copy(1, 0, 2, 0, 4), OUTSIDE);
        row(x, 3, BYTES, 45, 45, 50);
        Due.is("45, 45, 50", x.judge(0, 3, 0), NONE);
        x.sheet(3, -1, 0);
        Due.is("a missing one becomes", x.film(0, 3, 0), 3);
        x.sheet(2, INTS, 0);
        Due.is("none", x.film(2, 1, 0), 0);
        x.sheet(1, -1, 0);
        Due.is("told is no sheet", x.film(1, 4, 9), BAD);
        Due.is("one and the same, ahead of missing", x.film(1, 1, 9), BAD);
        Due.is("s is no sheet", x.film(-1, 1, 9), BAD);
        Due.is("s is missing", x.film(1, 2, 9), MISSING);
        row(x, 2, INTS, 12);
        Due.is("no door", x.film(2, 1, 9), BAD);
        Due.is("nobody", x.film(0, 1, 1), WHO);
        Due.is("nothing became", x.cell(1, 0, 0), MISSING);
    }

    // ---- strolls by lots

    private static void p34() {
        // SEED 0: 48271, 182605794, 1291394886, 1914720637: modulo 3: 1, 0, 0, 1.
        DoorOfLuck x = rowOfHouses();
        x.person(SOUL, 40);
        Due.is("no lots", x.drawn(0, 0, 0, 0), 40);
        Due.is("1: not of the house", x.drawn(0, 0, 1, 0), 40);
        Due.is("then 0", x.drawn(0, 0, 2, 0), 43);
        Due.is("the house", x.drawn(0, 0, 2, 1), 1);
        Due.is("then 0 again", x.drawn(0, 0, 3, 1), 0);
        Due.is("then 1: not of the house", x.drawn(0, 0, 4, 0), 46);
        Due.is("in thought", x.told(0, 1), 40);
        Due.is("drawn(99999, 0, 60, 1)", x.drawn(99999, 0, 60, 1) >= 0 ? 1 : 0, 1);
        Due.is("drawn(0, 1, 61, 0)", x.drawn(0, 1, 61, 0), WHO);
        Due.is("drawn(0, -1, 0, 0)", x.drawn(0, -1, 0, 0), WHO);
        int[][] bad = {{-1, 0, 0}, {100000, 0, 0}, {0, -1, 0}, {0, 61, 0}, {0, 0, 2}, {0, 0, -1}};
        for (int[] b : bad) Due.is("drawn of a bad number", x.drawn(b[0], 0, b[1], b[2]), VALUE);
        // SEED 3: 4 * 48271 = 193084 is 1 modulo 3; SEED 99999: 532132706, which is 2 modulo 3.
        x.put(0, 0, 1);
        Due.is("seed 3 by door 1", x.drawn(3, 0, 1, 1), 2);
        x.put(0, 0, 3);
        Due.is("seed 99999 by door 2", x.drawn(99999, 0, 1, 1), 2);
        DoorOfLuck one = town(0, 1);
        one.person(SOUL, 0);
        Due.is("one door alone, five times", one.drawn(5, 0, 5, 0), 15);
        DoorOfLuck empty = new DoorOfLuck();
        empty.person(SOUL, 512);
        Due.is("no doors: luck", empty.drawn(0, 0, 60, 0), 12);
        Due.is("no doors: the house", empty.drawn(0, 0, 60, 1), 5);
    }

    private static void p35() {
        DoorOfLuck x = rowOfHouses();
        x.person(SOUL, 0);
        int[] many = new int[100];
        for (int i = 0; i < 40; i++) {
            int luck = x.drawn(7 + i, 0, 20, 0);
            for (int least = 0; least <= luck; least++) many[least]++;
        }
        for (int least = 0; least < 100; least++) {
            int gcd = 40;
            while (many[least] % gcd != 0 || 40 % gcd != 0) gcd--;
            Due.is("above, least " + least, x.odds(7, 40, 0, least, 0), many[least] / gcd);
            Due.is("below, least " + least, x.odds(7, 40, 0, least, 1), 40 / gcd);
        }
        Due.is("one seed", x.odds(7, 1, 0, x.drawn(7, 0, 20, 0), 0), 1);
        Due.is("one seed, below", x.odds(7, 1, 0, x.drawn(7, 0, 20, 0), 1), 1);
        Due.is("they may pass 99999", x.odds(99999, 40, 0, 0, 0), 1);
        Due.is("in thought", x.told(0, 1), 0);
        int[][] bad = {{-1, 1, 0, 0, 0}, {100000, 1, 0, 0, 0}, {0, 0, 0, 0, 0}, {0, 41, 0, 0, 0}, {0, 1, 1, 0, 0},
            {0, 1, -1, 0, 0}, {0, 1, 0, -1, 0}, {0, 1, 0, 100, 0}, {0, 1, 0, 0, -1}, {0, 1, 0, 0, 2}};
        for (int[] b : bad) Due.is("odds of a bad number", x.odds(b[0], b[1], b[2], b[3], b[4]), NO);
    }

    private static void p36() {
        DoorOfLuck x = rowOfHouses();
        Due.is("nobody", x.image(), 0);
        x.person(SOUL, 0);
        x.person(SOUL, 0);
        Due.is("two", x.image(), 2);
        x.person(SOUL, 0);
        Due.is("the newest is kept", x.back(), 2);
    }

    private static void p37() {
        DoorOfLuck x = rowOfHouses();
        Due.is("there is none", x.back(), STATE);
        x.person(LADY + 3, 144);
        x.put(0, 2, 1);
        x.open(0, 0);
        x.brick(1, 1);
        x.dawn(5);
        read(x, "gains 1;dares 1;leaves 0;");
        x.force(1);
        x.image();
        x.open(0, 0);
        x.put(0, 1, 7);
        x.put(0, 2, NONE);
        x.person(FOOTMAN, 200);
        x.door(4, 5);
        x.put(1, 2, 3);
        x.put(0, 2, 3);
        x.brick(3, 1);
        x.brick(1, 0);
        x.dawn(6);
        read(x, "gains 2;dares 1;leaves 0;");
        x.force(2);
        x.feed(1, 'a', 0, 0, 0, 0);
        row(x, 0, INTS, 3);
        for (int again = 0; again < 2; again++) {
            Due.is("back()", x.back(), 1);
            int[] count = {1, 3, 5, 3, 1, 1};
            for (int what = 0; what < 6; what++) Due.is("count(" + what + ")", x.count(what), count[what]);
            int[] told = {0, 45, 1, 2, 3, 1};
            for (int what = 0; what < 6; what++) Due.is("told(0, " + what + ")", x.told(0, what), told[what]);
            Due.is("bricked", x.hung(1, 2), 1);
            Due.is("no such door", x.hung(3, 0), WHO);
            Due.is("sheets stay, and tell no door", x.walk(0, 0, 0), BAD);
            Due.is("a new one", x.person(GYPSY, 0), 1);
            Due.is("without an end", x.told(1, 2), NONE);
            Due.is("of its own kind", x.told(1, 3), 5);
            Due.is("a new door", x.door(6, 7), 3);
            Due.is("not bricked", x.hung(3, 2), 0);
            Due.is("elsewhere", x.hung(3, 0), 6);
            x.put(0, 1, 99);
        }
    }

    // ---- the host

    private static void p38() {
        DoorOfLuck x = rowOfHouses();
        x.person(SOUL, 40);
        Due.is("sheet(0, 0, 40)", x.sheet(0, BYTES, 40), 1);
        Due.is("its last place", x.cell(0, 39, 1), 1);
        Due.is("no more", x.cell(0, 40, 1), OUTSIDE);
        Due.is("again", x.sheet(0, INTS, 40), 1);
        row(x, 1, INTS, 1);
        Due.is("all 0: 3 for each of 40", x.walk(0, 0, 0), 99);
        Due.is("all 0", x.walk(0, 0, 2), 40);
        row(x, 0, INTS, 9, 9, 9);
        x.sheet(0, INTS, 3);
        Due.is("all 0 again", x.walk(0, 0, 2), 3);
        Due.is("none", x.sheet(0, SHORTS, 0), 1);
        Due.is("missing, whatever n", x.sheet(0, -1, 41), 1);
        Due.is("missing", x.cell(0, 0, 0), MISSING);
        Due.is("sheet(4, 0, 0)", x.sheet(4, BYTES, 0), BAD);
        Due.is("sheet(-1, -1, 0)", x.sheet(-1, -1, 0), BAD);
        Due.is("sheet(1, 3, 0)", x.sheet(1, 3, 0), BAD);
        Due.is("BAD ahead of -14", x.sheet(1, -2, -1), BAD);
        Due.is("sheet(1, 0, 41)", x.sheet(1, BYTES, 41), BAD);
        Due.is("sheet(1, 0, -1)", x.sheet(1, BYTES, -1), BELOW);
        Due.is("nothing became", x.walk(1, 0, 2), 0);
    }

    private static void p39() {
        DoorOfLuck x = rowOfHouses();
        x.person(SOUL, 0);
        x.sheet(0, BYTES, 2);
        Due.is("cell(0, 0, 258)", x.cell(0, 0, 258), 1);
        Due.is("its lowest 8 bits: door 2, not of this house, then 0", x.walk(0, 0, 0), 3);
        x.put(0, 0, 3);
        Due.is("door 2, then 0", x.walk(0, 0, 1), 2);
        x.sheet(1, SHORTS, 2);
        x.cell(1, 0, 65536 + 2);
        Due.is("its lowest 16 bits", x.walk(1, 0, 1), 2);
        x.cell(1, 0, 258);
        Due.is("258 is no door", x.walk(1, 0, 1), BAD);
        x.sheet(2, INTS, 2);
        x.cell(2, 0, 65536 + 2);
        Due.is("an int as it is", x.walk(2, 0, 1), BAD);
        Due.is("cell(4, 0, 0)", x.cell(4, 0, 0), BAD);
        Due.is("cell(-1, 0, 0)", x.cell(-1, 0, 0), BAD);
        Due.is("cell(3, 0, 0)", x.cell(3, 0, 0), MISSING);
        Due.is("cell(0, 2, 0)", x.cell(0, 2, 0), OUTSIDE);
        Due.is("cell(0, -1, 0)", x.cell(0, -1, 0), OUTSIDE);
    }

    private static void p40() {
        DoorOfLuck x = rowOfHouses();
        x.person(SOUL, 40);
        row(x, 0, INTS, 10, 11, 12, 13, 14);
        x.sheet(1, INTS, 3);
        Due.is("to another one", x.copy(0, 1, 1, 0, 3), 3);
        row(x, 2, INTS, 47, 140, 48, 141);
        Due.is("within its own, forward", x.copy(2, 0, 2, 1, 3), 3);
        // 47, 47, 140, 48: the pair (47, 140) at 1 is one of kind 4.
        Due.is("as they were", x.peopleBy(2, INTS, 1, 1), 1);
        Due.is("kind", x.told(1, 3) * 10 + x.told(1, 4), 47);
        Due.is("luck", x.told(1, 1), 40);
        row(x, 2, INTS, 48, 140, 47, 141);
        Due.is("within its own, backward", x.copy(2, 1, 2, 0, 3), 3);
        // 140, 47, 141, 141
        x.peopleBy(2, INTS, 1, 1);
        Due.is("as they were", x.told(2, 1), 41);
        Due.is("none, at the end", x.copy(0, 5, 1, 3, 0), 0);
        Due.is("i behind the end", x.copy(0, 6, 1, 3, 0), OUTSIDE);
        Due.is("too many of the one", x.copy(0, 3, 1, 0, 3), OUTSIDE);
        Due.is("too many for the other", x.copy(0, 0, 1, 1, 3), OUTSIDE);
        Due.is("n below 0", x.copy(0, 1, 1, 1, -1), OUTSIDE);
        Due.is("i below 0", x.copy(0, -1, 1, 0, 1), OUTSIDE);
        Due.is("j below 0", x.copy(0, 0, 1, -1, 1), OUTSIDE);
        Due.is("past the last int", x.copy(0, 1, 1, 1, Integer.MAX_VALUE), OUTSIDE);
        Due.is("past the last int", x.copy(0, Integer.MAX_VALUE, 1, 1, 1), OUTSIDE);
        Due.is("copy(4, ..)", x.copy(4, 0, 3, 0, 0), BAD);
        Due.is("copy(.., -1, ..)", x.copy(3, 0, -1, 0, 0), BAD);
        Due.is("one is missing", x.copy(3, -1, 0, 0, 0), MISSING);
        Due.is("the other is missing", x.copy(0, -1, 3, 0, 0), MISSING);
        x.sheet(3, SHORTS, 3);
        Due.is("unlike sorts, ahead of a place", x.copy(0, -1, 3, 0, 0), UNLIKE);
    }

    private static void p41() {
        DoorOfLuck x = new DoorOfLuck();
        row(x, 0, SHORTS, 0, FOOTMAN + 7, 733, 60, 0, GYPSY, 101, 5);
        Due.is("from 1 on, three, one is left out", x.peopleBy(0, SHORTS, 1, 3), 2);
        Due.is("kind", x.told(0, 3), 1);
        Due.is("more", x.told(0, 4), 7);
        Due.is("house", x.told(0, 0), 7);
        Due.is("luck", x.told(0, 1), 33);
        Due.is("the other one", x.told(1, 3), 5);
        Due.is("a place outside behind three", x.peopleBy(0, SHORTS, 1, 4), OUTSIDE);
        Due.is("what stood ahead came", x.count(0), 4);
        Due.is("a place below 0", x.peopleBy(0, SHORTS, -1, 1), OUTSIDE);
        Due.is("a place far above", x.peopleBy(0, SHORTS, Integer.MAX_VALUE, 1), OUTSIDE);
        Due.is("a place far above", x.peopleBy(0, SHORTS, Integer.MAX_VALUE - 1, 6), OUTSIDE);
        Due.is("a place far below", x.peopleBy(0, SHORTS, Integer.MIN_VALUE, 6), OUTSIDE);
        Due.is("the second of two outside", x.peopleBy(0, SHORTS, 7, 1), OUTSIDE);
        Due.is("none", x.peopleBy(0, SHORTS, 0, 0), 0);
        Due.is("count(0)", x.count(0), 4);
        row(x, 1, INTS, 1, 1, 2, 2, 3, 3, 4, 4);
        Due.is("there is room for two", x.peopleBy(1, INTS, 0, 4), 2);
        Due.is("count(0)", x.count(0), 6);
        Due.is("peopleBy(4, ..)", x.peopleBy(4, 0, 0, 0), BAD);
        Due.is("peopleBy(3, 3, ..)", x.peopleBy(3, 3, 0, 0), BAD);
        Due.is("peopleBy(3, -1, ..)", x.peopleBy(3, -1, 0, 0), BAD);
        Due.is("peopleBy(3, .., 7)", x.peopleBy(3, 0, 0, 7), BAD);
        Due.is("peopleBy(3, .., -1)", x.peopleBy(3, 0, 0, -1), BAD);
        Due.is("missing", x.peopleBy(3, 0, 0, 1), MISSING);
        Due.is("of another sort, ahead of a place", x.peopleBy(1, SHORTS, -1, 1), UNLIKE);
    }

    private static void p42() {
        DoorOfLuck x = rowOfHouses();
        int[] all = {SOUL, FOOTMAN, LADY, BUTLER, WIDOW, GYPSY};
        for (int kind : all) x.person(kind, 0);
        int[] parents = {0, 0, 0, 1, 2, 0};
        for (int p = 0; p < 6; p++) {
            for (int kind = 0; kind < 7; kind++) {
                boolean is = kind == p || kind == 0 || kind == parents[p];
                Due.is("taken(" + p + ", " + kind + ")", x.taken(p, kind), is ? p : UNLIKE);
            }
        }
        x.brick(2, 1);
        Due.is("taken(6, 6)", x.taken(6, 6), 0);
        Due.is("taken(8, 6)", x.taken(8, 6), 1);
        for (int kind = 0; kind < 6; kind++) Due.is("a door taken for one", x.taken(8, kind), UNLIKE);
        Due.is("taken(9, 0)", x.taken(9, 0), MISSING);
        Due.is("taken(17, 6)", x.taken(17, 6), MISSING);
        Due.is("taken(18, 0)", x.taken(18, 0), OUTSIDE);
        Due.is("taken(-1, 0)", x.taken(-1, 0), OUTSIDE);
        Due.is("BAD ahead of -12", x.taken(18, 7), BAD);
        Due.is("taken(0, -1)", x.taken(0, -1), BAD);
        Due.is("nobody", new DoorOfLuck().taken(0, 0), MISSING);
    }

    public static void main(String[] args) {
        Due.test("promise 1: a new object", PromiseTests::p01);
        Due.test("promise 2: count", PromiseTests::p02);
        Due.test("promise 3: dawn", PromiseTests::p03);
        Due.test("promise 4: door", PromiseTests::p04);
        Due.test("promise 5: brick", PromiseTests::p05);
        Due.test("promise 6: hung", PromiseTests::p06);
        Due.test("promise 7: feed", PromiseTests::p07);
        Due.test("promise 8: text", PromiseTests::p08texts);
        Due.test("promise 8: what a text says", PromiseTests::p08says);
        Due.test("promise 8: faults", PromiseTests::p08faults);
        Due.test("promise 8: what is open", PromiseTests::p08open);
        Due.test("promise 9: force", PromiseTests::p09);
        Due.test("promise 10: asks", PromiseTests::p10);
        Due.test("promise 11: person", PromiseTests::p11);
        Due.test("promise 12: put", PromiseTests::p12);
        Due.test("promise 13: told", PromiseTests::p13);
        Due.test("promise 14: open", PromiseTests::p14);
        Due.test("promise 14: what kinds gain", PromiseTests::kindsGain);
        Due.test("promise 14: what kinds leave", PromiseTests::kindsLeave);
        Due.test("promise 14: what kinds dare", PromiseTests::kindsDare);
        Due.test("promise 15: after", PromiseTests::p15);
        Due.test("promise 16: safe", PromiseTests::p16);
        Due.test("promise 17: way", PromiseTests::p17);
        Due.test("promise 18: together", PromiseTests::p18);
        Due.test("promise 19: friend", PromiseTests::p19);
        Due.test("promise 20: worst", PromiseTests::p20);
        Due.test("promise 21: mason", PromiseTests::p21);
        Due.test("promise 22: watch", PromiseTests::p22);
        Due.test("promise 23: doomed", PromiseTests::p23);
        Due.test("promise 24: share", PromiseTests::p24);
        Due.test("promise 25: walk", PromiseTests::p25);
        Due.test("promise 26: goes", PromiseTests::p26);
        Due.test("promise 27: judge", PromiseTests::p27);
        Due.test("promise 28: kinds", PromiseTests::p28);
        Due.test("promise 29: states", PromiseTests::p29);
        Due.test("promise 30: lucks", PromiseTests::p30);
        Due.test("promise 31: whose", PromiseTests::p31);
        Due.test("promise 32: laws", PromiseTests::p32);
        Due.test("promise 33: film", PromiseTests::p33);
        Due.test("promise 34: drawn", PromiseTests::p34);
        Due.test("promise 35: odds", PromiseTests::p35);
        Due.test("promise 36: image", PromiseTests::p36);
        Due.test("promise 37: back", PromiseTests::p37);
        Due.test("promise 38: sheet", PromiseTests::p38);
        Due.test("promise 39: cell", PromiseTests::p39);
        Due.test("promise 40: copy", PromiseTests::p40);
        Due.test("promise 41: peopleBy", PromiseTests::p41);
        Due.test("promise 42: taken", PromiseTests::p42);
        Due.close();
    }
}
