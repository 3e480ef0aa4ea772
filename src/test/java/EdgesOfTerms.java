/** Boundary cases of the document's head and of 'Terms', but for texts. */
final class EdgesOfTerms extends Edges {
    private static final int[] ALL = {SOUL, FOOTMAN, LADY, BUTLER, WIDOW, GYPSY};

    private EdgesOfTerms() {
    }

    static void all() {
        calls();
        numbers();
        kindsGain();
        kindsDare();
        kindsLeave();
        opening();
        ways();
        danger();
        strolls();
        sheets();
        refusals();
    }

    // ---- the head

    private static void calls() {
        edge(TERMS, "An object is used for at most 512 calls after it has been made", "the 512th is answered", () -> {
            DoorOfLuck x = new DoorOfLuck();
            for (int n = 1; n < 512; n++) Due.is("dawn, call " + n, x.dawn(n % 7 + 1), n == 1 ? 0 : (n - 1) % 7 + 1);
            Due.is("count(2), call 512", x.count(2), 511 % 7 + 1);
        });
        edge(TERMS, "An object is used for at most 512 calls after it has been made", "512 times that something comes", () -> {
            DoorOfLuck x = new DoorOfLuck();
            x.image();
            for (int n = 0; n < 73; n++) {
                Due.is("door", x.door(0, 7), 0);
                for (int p = 0; p < 3; p++) Due.is("person", x.person(p, p), p);
                Due.is("feed", x.feed(1, 'a', 0, 0, 0, 0), 1);
                Due.is("text", x.text(), -100);
                Due.is("back", x.back(), 0);
            }
        });
        edge(TERMS, "NONE = -1, BAD = -2, STATE = -3, FULL = -4", "the constants", () -> {
            each("constant", v -> new int[] {DoorOfLuck.NONE, DoorOfLuck.BAD, DoorOfLuck.STATE, DoorOfLuck.FULL}[v],
                    -1, -2, -3, -4);
        });
        edge(TERMS, "NO = -4611686018427387904L", "the constant", () -> Due.is("NO", DoorOfLuck.NO, NO));
    }

    // ---- 1

    private static void numbers() {
        edge(TERMS, "HOUSES 0 .. 7.", "each of eight may have a door and someone", () -> {
            DoorOfLuck x = new DoorOfLuck();
            for (int h = 0; h < 8; h++) Due.is("door from " + h, x.door(h, 7 - h), h);
            x.person(SOUL, 0);
            for (int h = 0; h < 8; h++) Due.is("put in " + h, x.put(0, 0, h), Math.max(0, h - 1));
            for (int h = 0; h < 8; h++) Due.is("one side of " + h, x.hung(h, 0), h);
            for (int h = 0; h < 8; h++) Due.is("other side of " + h, x.hung(h, 1), 7 - h);
        });
        edge(TERMS, "HOUSES 0 .. 7.", "none below 0, none above 7", () -> {
            DoorOfLuck x = rowOfHouses();
            x.person(SOUL, 0);
            refused("door from", BAD, outside(0, 7), v -> x.door(v, 3));
            refused("put", VALUE, outside(0, 7), v -> x.put(0, 0, v));
            refused("way to", VALUE, outside(0, 7), v -> x.way(0, v, 0));
            refused("together to", BAD, outside(0, 7), v -> x.together(1, v));
            Due.is("a person in house 8", x.person(SOUL, 800), BAD);
        });
        edge(TERMS, "DOORS are numbered from 0 on, 12 at most", "twelve by their numbers, no thirteenth", () -> {
            DoorOfLuck x = new DoorOfLuck();
            for (int d = 0; d < 12; d++) Due.is("door", x.door(d % 8, (d + 1) % 8), d);
            Due.is("a thirteenth", x.door(0, 1), FULL);
            Due.is("the twelfth is between 3", x.hung(11, 0), 3);
            Due.is("and 4", x.hung(11, 1), 4);
            Due.is("there is no door 12", x.hung(12, 0), WHO);
        });
        edge(TERMS, "BRICKED up or not (not as it comes)", "each of twelve, and one that comes again", () -> {
            DoorOfLuck x = new DoorOfLuck();
            x.image();
            for (int d = 0; d < 12; d++) {
                x.door(0, 1);
                Due.is("as it comes", x.hung(d, 2), 0);
                x.brick(d, 1);
            }
            x.back();
            x.door(0, 1);
            Due.is("as it comes again", x.hung(0, 2), 0);
        });
        edge(TERMS, "DAY (0 .. 999; 0 at first;", "0 at first, then 999", () -> {
            DoorOfLuck x = new DoorOfLuck();
            Due.is("at first", x.count(2), 0);
            x.dawn(999);
            Due.is("the last", x.count(2), 999);
            refused("dawn", BAD, outside(0, 999), x::dawn);
        });
        edge(TERMS, "in thought it may pass 999", "on day 999 all that is in thought is answered", () -> {
            DoorOfLuck x = rowOfHouses();
            x.person(SOUL, 40);
            x.dawn(999);
            row(x, 0, INTS, 0, 1);
            Due.is("film", x.film(0, 1, 0), 2);
            Due.is("walk", x.walk(0, 0, 0), 46);
            Due.is("judge", x.judge(0, 1, 0), NONE);
            Due.is("drawn", x.drawn(0, 0, 2, 0), 43);
            Due.is("odds", x.odds(0, 1, 0, 0, 0), 1);
            Due.is("the day stays", x.count(2), 999);
        });
        edge(TERMS, "PEOPLE are numbered from 0 on, 6 at most", "six by their numbers, no seventh", () -> {
            DoorOfLuck x = new DoorOfLuck();
            for (int p = 0; p < 6; p++) Due.is("person", x.person(SOUL, p), p);
            Due.is("a seventh", x.person(SOUL, 6), FULL);
            for (int p = 0; p < 6; p++) Due.is("luck of " + p, x.told(p, 1), p);
            Due.is("there is no sixth", x.told(6, 1), WHO);
        });
        edge(TERMS, "of a KIND, with MORE (0 .. 9)", "0 and 9 of each kind", () -> {
            for (int kind = 0; kind < 6; kind++) {
                DoorOfLuck x = new DoorOfLuck();
                x.person(10 * kind, 0);
                x.person(10 * kind + 9, 0);
                Due.is("kind", x.told(0, 3), kind);
                Due.is("more", x.told(0, 4), 0);
                Due.is("kind", x.told(1, 3), kind);
                Due.is("more", x.told(1, 4), 9);
            }
        });
        edge(TERMS, "in a HOUSE, with LUCK (0 .. 99)", "0 and 99 of the first and the last house", () -> {
            DoorOfLuck x = new DoorOfLuck();
            int[] all = {0, 99, 700, 799};
            for (int p = 0; p < 4; p++) {
                x.person(SOUL, all[p]);
                Due.is("house", x.told(p, 0), all[p] / 100);
                Due.is("luck", x.told(p, 1), all[p] % 100);
            }
        });
        edge(TERMS, "END: a DOOR, or none (none as one comes)", "as one comes, and as one comes again", () -> {
            DoorOfLuck x = rowOfHouses();
            x.image();
            for (int again = 0; again < 2; again++) {
                x.person(SOUL, 0);
                Due.is("none", x.told(0, 2), NONE);
                Due.is("nor by door 0", x.hung(0, 3), 0);
                x.put(0, 2, 0);
                x.back();
            }
        });
        edge(TERMS, "OPENED: DOORS (none as one comes)", "as one comes, and as one comes again", () -> {
            DoorOfLuck x = rowOfHouses();
            x.image();
            for (int again = 0; again < 2; again++) {
                x.person(SOUL, 0);
                Due.is("none", x.told(0, 5), 0);
                x.open(0, 0);
                x.back();
            }
        });
    }

    // ---- kinds

    /** LUCK behind a door, the text saying that one gains so much. */
    private static long behind(int kindMore, int luck, int said) {
        DoorOfLuck x = town(0, 1);
        law(x, "gains " + said + ";dares 1;leaves 0;");
        x.person(kindMore, luck);
        return x.open(0, 0);
    }

    private static void kindsGain() {
        edge(TERMS, "0 SOUL: that; if so; that.", "a soul's more is of no account", () -> {
            Due.is("gains 9", behind(SOUL + 9, 50, 9), 59);
            Due.is("gains -9", behind(SOUL + 9, 50, -9), 41);
            Due.is("gains 0", behind(SOUL + 9, 50, 0), 50);
        });
        edge(TERMS, "GAINS MORE more.", "a footman's 0 and 9, and behind the text's own bound", () -> {
            Due.is("0 more", behind(FOOTMAN, 50, 5), 55);
            Due.is("9 more", behind(FOOTMAN + 9, 50, 5), 64);
            Due.is("-9 and 9", behind(FOOTMAN + 9, 50, -9), 50);
            Due.is("-99 at least, then 9 more", behind(FOOTMAN + 9, 99, -500), 9);
            Due.is("a butler's, too", behind(BUTLER + 9, 50, 5), 64);
        });
        edge(TERMS, "GAINS half (cut).", "cut towards 0, below 0, too", () -> {
            int[] said = {0, 1, 2, 3, 98, 99, -1, -2, -3, -98, -99};
            int[] due = {50, 50, 51, 51, 99, 99, 50, 49, 49, 1, 1};
            for (int i = 0; i < said.length; i++) Due.is("a lady, by " + said[i], behind(LADY + 9, 50, said[i]), due[i]);
            Due.is("half of 99 is 49", behind(LADY, 0, 99), 49);
            Due.is("half of -99 is -49", behind(LADY, 99, -99), 50);
            Due.is("half of the bound", behind(LADY, 0, 9999), 49);
        });
        edge(TERMS, "GAINS twice a LADY's, and MORE, if LUCK is below 50, else as a LADY", "49 and 50", () -> {
            Due.is("0", behind(WIDOW + 9, 0, 7), 15);
            Due.is("49", behind(WIDOW + 9, 49, 7), 64);
            Due.is("50", behind(WIDOW + 9, 50, 7), 53);
            Due.is("99", behind(WIDOW + 9, 99, -7), 96);
            Due.is("twice the half that is cut", behind(WIDOW, 49, 7), 55);
            Due.is("and below 0", behind(WIDOW, 49, -7), 43);
            Due.is("more 0", behind(WIDOW, 49, 1), 49);
        });
        edge(TERMS, "if it isn't one's END; GAINS 0", "a gypsy, by the most, the least, any more", () -> {
            Due.is("99", behind(GYPSY + 9, 50, 99), 50);
            Due.is("-99", behind(GYPSY + 9, 50, -99), 50);
            Due.is("0", behind(GYPSY, 0, 5), 0);
        });
    }

    /** Whether one opens the door, the text saying whether one dares. */
    private static long dares(int kindMore, String said, int end, int day) {
        DoorOfLuck x = town(0, 1);
        law(x, "gains 0;dares " + said + ";leaves 0;");
        x.person(kindMore, 0);
        x.put(0, 2, end);
        x.dawn(day);
        return x.open(0, 0) == STATE ? 0 : 1;
    }

    private static void eachDares(String said, int end, int... due) {
        for (int k = 0; k < 6; k++) Due.is("kind " + k + " by " + said, dares(ALL[k] + 8, said, end, 0), due[k]);
    }

    private static void kindsDare() {
        edge(TERMS, "DARES always;", "a footman and a butler whom the text says no", () -> {
            eachDares("0", NONE, 0, 1, 0, 1, 0, 1);
            eachDares("1", NONE, 1, 1, 1, 1, 1, 1);
            eachDares("0-1", NONE, 1, 1, 1, 1, 1, 1);
        });
        edge(TERMS, "DARES as a SOUL, but not if it is her END", "a lady and a widow; another door is none", () -> {
            eachDares("1", 0, 1, 1, 0, 1, 0, 0);
            eachDares("0", 0, 0, 1, 0, 1, 0, 0);
            DoorOfLuck x = town(0, 1, 0, 1);
            x.person(LADY, 0);
            x.put(0, 2, 0);
            Due.is("her end", x.open(0, 0), STATE);
            Due.is("another one", x.open(0, 1), 1);
        });
        edge(TERMS, "DARES, if it isn't one's END", "a gypsy, whatever the text says", () -> {
            Due.is("no end", dares(GYPSY, "0", NONE, 0), 1);
            Due.is("the end", dares(GYPSY, "1", 0, 0), 0);
        });
        edge(TERMS, "but not if DAY modulo 7 is MORE", "each more on the days 0 .. 13 and 999", () -> {
            for (int more = 0; more < 10; more++) {
                DoorOfLuck x = town(0, 1);
                x.person(BUTLER + more, 0);
                for (int day = 0; day < 14; day++) {
                    x.dawn(day);
                    Due.is("more " + more + ", day " + day, x.safe(0, 0), day % 7 == more ? 0 : 1);
                }
                x.dawn(999);
                Due.is("more " + more + ", day 999", x.safe(0, 0), more == 5 ? 0 : 1);
            }
        });
        edge(TERMS, "A DOOR that is BRICKED nobody DARES.", "each kind, by truth and in thought", () -> {
            DoorOfLuck x = town(0, 1);
            for (int kind : ALL) x.person(kind + 8, 0);
            x.brick(0, 1);
            row(x, 0, INTS, 0);
            for (int p = 0; p < 6; p++) {
                Due.is("open, kind " + p, x.open(p, 0), STATE);
                Due.is("safe, kind " + p, x.safe(p, 0), 0);
                Due.is("walk, kind " + p, x.walk(0, p, 2), 0);
            }
            x.brick(0, 0);
            for (int p = 0; p < 6; p++) Due.is("not so any more, kind " + p, x.walk(0, p, 2), 1);
        });
    }

    /** LUCK behind one's end, the text saying that so much is left. */
    private static long left(int kindMore, int luck, String said) {
        DoorOfLuck x = town(0, 1);
        law(x, "gains 9;dares 1;leaves " + said + ";");
        x.person(kindMore, luck);
        x.put(0, 2, 0);
        return x.open(0, 0);
    }

    private static void kindsLeave() {
        edge(TERMS, "LEAVES half (cut) of LUCK more;", "a butler with luck 0, 1, 98, 99", () -> {
            Due.is("0", left(BUTLER + 8, 0, "5"), 5);
            Due.is("1", left(BUTLER + 8, 1, "5"), 5);
            Due.is("98", left(BUTLER + 8, 98, "5"), 54);
            Due.is("99", left(BUTLER + 8, 99, "5"), 54);
            Due.is("half of what was, behind the bound of the text", left(BUTLER + 8, 99, "0-99"), 49);
            Due.is("a footman has none of it", left(FOOTMAN + 8, 99, "5"), 5);
        });
        edge(TERMS, "LEAVES MORE at least", "a widow never opens her end, as no lady does", () -> {
            Due.is("a widow", left(WIDOW + 9, 40, "5"), STATE);
            Due.is("a lady", left(LADY + 9, 40, "5"), STATE);
        });
        edge(TERMS, "leaves 0 .. 99, else the bound;", "0 and 99, less and more", () -> {
            String[] said = {"0", "99", "100", "9999", "0-1", "0-9999", "4096*4096*128", "4096*4096*128-1"};
            int[] due = {0, 99, 99, 99, 0, 0, 0, 99};
            for (int i = 0; i < due.length; i++) Due.is("leaves " + said[i], left(SOUL, 40, said[i]), due[i]);
        });
    }

    // ---- 2

    private static void opening() {
        edge(TERMS, "One OPENS a DOOR of the HOUSE one is in, if one DARES:", "from either side, not from elsewhere", () -> {
            DoorOfLuck x = town(2, 5);
            x.person(SOUL, 200);
            x.person(SOUL, 500);
            x.person(SOUL, 300);
            Due.is("from one side", x.open(0, 0), 3);
            Due.is("then on the other", x.told(0, 0), 5);
            Due.is("from the other", x.open(1, 0), 3);
            Due.is("then on the one", x.told(1, 0), 2);
            Due.is("from elsewhere", x.open(2, 0), STATE);
        });
        edge(TERMS, "LUCK is what it LEAVES (0 .. 99, else the bound)", "a butler's 99 and 49 more", () -> {
            Due.is("148", left(BUTLER + 8, 99, "99"), 99);
            Due.is("100", left(BUTLER + 8, 98, "51"), 99);
            Due.is("99", left(BUTLER + 8, 98, "50"), 99);
            Due.is("98", left(BUTLER + 8, 98, "49"), 98);
        });
        edge(TERMS, "else LUCK is more by what one GAINS (0 .. 99, else the bound)", "to 0, below it, to 99, above it", () -> {
            Due.is("1 less 1", behind(SOUL, 1, -1), 0);
            Due.is("1 less 2", behind(SOUL, 1, -2), 0);
            Due.is("0 less 99", behind(SOUL, 0, -99), 0);
            Due.is("2 less 1", behind(SOUL, 2, -1), 1);
            Due.is("98 and 1", behind(SOUL, 98, 1), 99);
            Due.is("98 and 2", behind(SOUL, 98, 2), 99);
            Due.is("99 and 99", behind(SOUL, 99, 99), 99);
            Due.is("97 and 1", behind(SOUL, 97, 1), 98);
        });
        edge(TERMS, "it is one of those one OPENED;", "a second time, the first and the twelfth door", () -> {
            DoorOfLuck x = town(0, 1, 0, 1, 0, 1, 0, 1, 0, 1, 0, 1, 0, 1, 0, 1, 0, 1, 0, 1, 0, 1, 0, 1);
            x.person(SOUL, 0);
            for (int n = 0; n < 5; n++) x.open(0, 0);
            Due.is("door 0 five times", x.told(0, 5), 1);
            for (int d = 11; d > 0; d--) x.open(0, d);
            Due.is("all twelve", x.told(0, 5), 4095);
        });
        edge(TERMS, "it is one of those one OPENED;", "one's end, too, and a door by which one gains nothing", () -> {
            DoorOfLuck x = town(0, 1, 1, 2);
            x.person(SOUL, 0);
            x.put(0, 2, 1);
            law(x, "gains 0;dares 1;leaves 0;");
            x.open(0, 0);
            x.open(0, 1);
            Due.is("both", x.told(0, 5), 3);
        });
        edge(TERMS, "else nothing is otherwise.", "a door tried elsewhere, one that is not dared", () -> {
            DoorOfLuck x = rowOfHouses();
            x.person(SOUL, 40);
            law(x, "gains 5;dares door=2;leaves 0;");
            row(x, 0, INTS, 0, 1, 2, 0);
            Due.is("luck", x.walk(0, 0, 0), 40);
            Due.is("the house", x.walk(0, 0, 1), 0);
            Due.is("opened", x.walk(0, 0, 2), 0);
            Due.is("truly", x.goes(0, 0), 40);
            Due.is("opened, truly", x.told(0, 5), 0);
        });
        edge(TERMS, "(be it where it may, told of where one is) that isn't one's END.", "doors of other houses", () -> {
            DoorOfLuck x = town(0, 1, 6, 7);
            x.person(SOUL, 300);
            law(x, "gains 0;dares house=3;leaves 0;");
            Due.is("neither is of house 3", x.safe(0, 0) + x.safe(0, 1), 2);
            x.put(0, 0, 0);
            Due.is("told of house 0", x.safe(0, 0) + x.safe(0, 1), 0);
            x.put(0, 0, 3);
            x.put(0, 2, 1);
            Due.is("one's end", x.safe(0, 1), 0);
            Due.is("not one's end", x.safe(0, 0), 1);
        });
    }

    private static void ways() {
        edge(TERMS, "of fewest DOORS;", "none to where one is, seven to the farthest, none to where no door is", () -> {
            DoorOfLuck x = town(0, 1, 1, 2, 2, 3, 3, 4, 4, 5, 5, 6, 6, 7);
            x.person(SOUL, 0);
            each("way to", v -> x.way(0, v, 0), 0, 1, 2, 3, 4, 5, 6, 7);
            x.door(7, 0);
            each("way to, by the other side, too", v -> x.way(0, v, 0), 0, 1, 2, 3, 4, 3, 2, 1);
            DoorOfLuck none = new DoorOfLuck();
            none.person(SOUL, 300);
            each("way without doors to", v -> none.way(0, v, 0), -1, -1, -1, 0, -1, -1, -1, -1);
        });
        edge(TERMS, "the last one is the least DOOR by which one comes there", "of like ones, told from the last one on", () -> {
            // To 3 by 0 4 (over 1) and by 1 3 (over 2): the last one is 3, though the first of the other is less.
            DoorOfLuck x = town(0, 1, 0, 2, 4, 5, 2, 3, 1, 3);
            x.person(SOUL, 0);
            Due.is("1 3", x.way(0, 3, 1), 17 * 2 + 4);
            DoorOfLuck twice = town(0, 1, 1, 0, 0, 1);
            twice.person(SOUL, 100);
            Due.is("the least of three", twice.way(0, 0, 1), 1);
            twice.brick(0, 1);
            Due.is("of two", twice.way(0, 0, 1), 2);
            twice.brick(1, 1);
            Due.is("of one", twice.way(0, 0, 1), 3);
            twice.brick(2, 1);
            Due.is("of none", twice.way(0, 0, 1), NONE);
        });
        edge(TERMS, "from a HOUSE that is one DOOR less away", "a lesser door from a house as far away or farther is none", () -> {
            // 2 is two doors away by 2 3; door 0 comes there from 4, which is as far away, door 1 from 6, farther.
            DoorOfLuck x = town(4, 2, 6, 2, 0, 1, 1, 2, 1, 4, 4, 6);
            x.person(SOUL, 0);
            Due.is("2 3", x.way(0, 2, 1), 17 * 3 + 4);
            Due.is("two", x.way(0, 2, 0), 2);
        });
        edge(TERMS, "likewise those ahead of it.", "each one ahead is the least of its like", () -> {
            DoorOfLuck x = town(2, 3, 2, 3, 1, 2, 1, 2, 0, 1, 0, 1);
            x.person(SOUL, 0);
            Due.is("4 2 0", x.way(0, 3, 1), (5 * 17 + 3) * 17 + 1);
            x.brick(4, 1);
            x.brick(2, 1);
            x.brick(0, 1);
            Due.is("5 3 1", x.way(0, 3, 1), (6 * 17 + 4) * 17 + 2);
        });
        edge(TERMS, "each of which is SAFE for any of them (all told as all is now)", "told of the house one is in now", () -> {
            DoorOfLuck x = rowOfHouses();
            x.person(SOUL, 0);
            law(x, "gains 0;dares house=0;leaves 0;");
            Due.is("to the end of the row", x.way(0, 3, 0), 3);
            x.put(0, 0, 1);
            Due.is("nowhere", x.way(0, 2, 0), NONE);
        });
        edge(TERMS, "each of which is SAFE for any of them (all told as all is now)", "one of them is enough", () -> {
            DoorOfLuck x = rowOfHouses();
            x.person(LADY, 0);
            x.person(LADY, 0);
            x.put(0, 2, 0);
            x.put(1, 2, 1);
            Due.is("both", x.together(3, 3), 3);
            Due.is("the first alone", x.together(1, 3), NONE);
            x.put(1, 2, 0);
            Due.is("the end of both", x.together(3, 3), NONE);
        });
    }

    private static void danger() {
        edge(TERMS, "one may come to a HOUSE with one's END", "the end is of the house one is in, on either side", () -> {
            DoorOfLuck x = town(0, 1);
            x.person(SOUL, 0);
            x.put(0, 2, 0);
            Due.is("on one side", x.doomed(), 1);
            x.put(0, 0, 1);
            Due.is("on the other", x.doomed(), 1);
            x.put(0, 0, 2);
            Due.is("elsewhere", x.doomed(), 0);
        });
        edge(TERMS, "one may come to a HOUSE with one's END", "seven houses away, behind six doors", () -> {
            DoorOfLuck x = town(6, 7, 5, 6, 4, 5, 3, 4, 2, 3, 1, 2, 0, 1);
            x.person(SOUL, 0);
            x.put(0, 2, 0);
            Due.is("so far", x.doomed(), 1);
            for (int d = 1; d < 7; d++) {
                x.brick(d, 1);
                Due.is("door " + d + " bricked", x.doomed(), 0);
                x.brick(d, 0);
            }
        });
        edge(TERMS, "that one being such a DOOR, too.", "an end that is bricked, not dared, or watched", () -> {
            DoorOfLuck x = town(0, 1, 0, 2);
            x.person(SOUL, 0);
            x.person(LADY, 0);
            x.put(0, 2, 0);
            x.put(1, 2, 0);
            Due.is("a soul; no lady", x.doomed(), 1);
            Due.is("watched", x.watch(0, 0), 1);
            law(x, "gains 0;dares door=1;leaves 0;");
            Due.is("not dared", x.doomed(), 0);
            x.force(0);
            x.brick(0, 1);
            Due.is("bricked", x.doomed(), 0);
        });
        edge(TERMS, "by other DOORS one DARES (told as all is now)", "told of the house one is in now", () -> {
            DoorOfLuck x = rowOfHouses();
            x.person(SOUL, 0);
            x.put(0, 2, 2);
            law(x, "gains 0;dares house=0;leaves 0;");
            Due.is("from 0 all is dared", x.doomed(), 1);
            x.put(0, 0, 2);
            Due.is("from 2 nothing, though the end is there", x.doomed(), 0);
        });
    }

    private static void strolls() {
        edge(TERMS, "STROLLS by a SEED (0 .. 99999)", "the first and the last seed, none below or above", () -> {
            DoorOfLuck x = town(0, 1, 0, 2, 0, 3, 0, 4, 0, 5, 0, 6, 0, 7);
            x.person(SOUL, 0);
            // 48271 modulo 7 is 6; 100000 * 48271 modulo 2147483647 is 532132706, and that modulo 7 is 0.
            Due.is("seed 0", x.drawn(0, 0, 1, 1), 7);
            Due.is("seed 99999", x.drawn(99999, 0, 1, 1), 1);
            refused("drawn", VALUE, outside(0, 99999), v -> x.drawn(v, 0, 1, 1));
            refused("odds", NO, outside(0, 99999), v -> x.odds(v, 1, 0, 0, 0));
        });
        edge(TERMS, "(no DOORS: none)", "nothing is tried", () -> {
            DoorOfLuck x = new DoorOfLuck();
            x.person(FOOTMAN, 742);
            Due.is("luck", x.drawn(0, 0, 60, 0), 42);
            Due.is("the house", x.drawn(99999, 0, 60, 1), 7);
            Due.is("odds of 42", x.odds(0, 40, 0, 42, 0), 1);
            Due.is("odds of 43", x.odds(0, 40, 0, 43, 0), 0);
        });
        edge(TERMS, "the first is (SEED and 1) times 48271 modulo 2147483647", "the last seed below it, the first past it", () -> {
            DoorOfLuck x = new DoorOfLuck();
            for (int d = 0; d < 12; d++) x.door(0, 1);
            law(x, "gains door+1;dares 1;leaves 0;");
            x.person(SOUL, 0);
            // 44488 * 48271 is 2147480248, and that modulo 12 is 4; 44489 * 48271 is past it by 44872, modulo 12: 4.
            Due.is("seed 44487", x.drawn(44487, 0, 1, 0), 5);
            Due.is("seed 44488", x.drawn(44488, 0, 1, 0), 5);
            // 44490 * 48271 is past it by 93143, modulo 12: 11; 88977 * 48271 twice past it by 41473, modulo 12: 1.
            Due.is("seed 44489", x.drawn(44489, 0, 1, 0), 12);
            Due.is("seed 88976", x.drawn(88976, 0, 1, 0), 2);
        });
        edge(TERMS, "each further one the last times 48271 modulo 2147483647", "sixty lots, reckoned with big numbers", () -> {
            int[] star = new int[24];
            for (int d = 0; d < 12; d++) star[2 * d + 1] = 1 + d % 7;
            for (int seed : new int[] {0, 1, 44488, 44489, 99999}) {
                DoorOfLuck x = town(star);
                x.person(SOUL, 0);
                java.math.BigInteger lot = java.math.BigInteger.valueOf(seed + 1);
                int house = 0;
                for (int n = 1; n <= 60; n++) {
                    lot = lot.multiply(java.math.BigInteger.valueOf(48271)).mod(java.math.BigInteger.valueOf(2147483647));
                    int there = 1 + lot.mod(java.math.BigInteger.valueOf(12)).intValue() % 7;
                    house = house == 0 ? there : house == there ? 0 : house;
                    Due.is("seed " + seed + ", " + n, x.drawn(seed, 0, n, 1), house);
                }
            }
        });
    }

    private static void sheets() {
        edge(TERMS, "SHEETS 0 .. 3 are rows of numbers, or missing (as all are at first)", "four of them", () -> {
            DoorOfLuck x = new DoorOfLuck();
            each("missing at first", s -> x.cell((int) s, 0, 0), MISSING, MISSING, MISSING, MISSING);
            each("each becomes", s -> x.sheet(s, INTS, s), 1, 1, 1, 1);
            each("each by itself", s -> x.cell(s, s - 1, 0), OUTSIDE, 1, 1, 1);
            each("and no longer", s -> x.cell(s, s, 0), OUTSIDE, OUTSIDE, OUTSIDE, OUTSIDE);
            refused("sheet", BAD, outside(0, 3), s -> x.sheet(s, INTS, 1));
        });
        edge(TERMS, "of sort 0 bytes, 1 shorts, 2 ints, 40 at most.", "forty of each sort, not one more", () -> {
            DoorOfLuck x = new DoorOfLuck();
            for (int sort = 0; sort < 3; sort++) {
                Due.is("forty", x.sheet(0, sort, 40), 1);
                Due.is("the last place", x.cell(0, 39, 1), 1);
                Due.is("the place behind", x.cell(0, 40, 1), OUTSIDE);
                Due.is("one more", x.sheet(0, sort, 41), BAD);
            }
        });
    }

    private static void refusals() {
        String answer = "(a -1 that is an answer comes behind the refusal of a number)";
        edge(TERMS, answer, "a way that there is not", () -> {
            DoorOfLuck x = rowOfHouses();
            x.person(SOUL, 0);
            Due.is("none", x.way(0, 7, 0), NONE);
            refused("a way's what", VALUE, outside(0, 1), v -> x.way(0, 7, v));
            Due.is("none together", x.together(1, 7), NONE);
            Due.is("nobody so numbered", x.together(2, 7), BAD);
        });
        edge(TERMS, answer, "an end that is none, a friend, a worst door, a mason's that is none", () -> {
            DoorOfLuck x = rowOfHouses();
            x.person(SOUL, 0);
            Due.is("no end was", x.put(0, 2, NONE), NONE);
            Due.is("no such end", x.put(0, 2, 3), VALUE);
            Due.is("no friend", x.friend(0, 0), NONE);
            Due.is("a friend's what", x.friend(0, -1), VALUE);
            Due.is("no worst", x.worst(0), NONE);
            Due.is("a worst one's what", x.worst(-1), BAD);
            Due.is("no mason's", x.mason(0), NONE);
            Due.is("a mason's what", x.mason(-1), BAD);
        });
        edge(TERMS, answer, "a walk without one's end, what is told and fits, luck that none is", () -> {
            DoorOfLuck x = rowOfHouses();
            x.person(SOUL, 40);
            row(x, 0, INTS, 0);
            row(x, 1, BYTES, 43);
            row(x, 2, BYTES, 1);
            Due.is("no end", x.walk(0, 0, 3), NONE);
            Due.is("a walk's what", x.walk(0, 0, 4), VALUE);
            Due.is("it fits", x.judge(0, 1, 0), NONE);
            Due.is("of nobody", x.judge(0, 1, 1), WHO);
            Due.is("no luck", x.lucks(0, 2, 0, 1), NONE);
            Due.is("a luck's what", x.lucks(0, 2, 0, 2), VALUE);
        });
        EdgesOfRefusals.all();
    }
}
