/** Boundary cases of the town and its people: promises 1 to 6 and 11 to 13. */
final class EdgesOfTown extends Edges {
    private EdgesOfTown() {
    }

    static void all() {
        promise1();
        promise2();
        promise3();
        promise4();
        promise5();
        promise6();
        promise11();
        promise12();
        promise13();
        promise13ends();
    }

    /** Twelve doors from house 0, one for each of the others and so on again. */
    private static DoorOfLuck star() {
        DoorOfLuck x = new DoorOfLuck();
        for (int d = 0; d < 12; d++) x.door(0, 1 + d % 7);
        return x;
    }

    private static void promise1() {
        edge(1, "No DOORS, no PEOPLE.", "nothing is there", () -> {
            DoorOfLuck x = new DoorOfLuck();
            each("count", x::count, 0, 0, 0, 1, 0, 0);
            refused("hung", WHO, new int[] {-1, 0, 1, 11, 12}, d -> x.hung(d, 0));
            refused("told", WHO, new int[] {-1, 0, 1, 5, 6}, p -> x.told(p, 0));
            Due.is("nobody is in danger", x.doomed(), 0);
            Due.is("there is no image", x.back(), STATE);
        });
        edge(1, "No DOORS, no PEOPLE.", "of a second object, whatever the first one has", () -> {
            lived();
            DoorOfLuck x = new DoorOfLuck();
            each("count", x::count, 0, 0, 0, 1, 0, 0);
            each("sheets", s -> x.cell(s, 0, 0), MISSING, MISSING, MISSING, MISSING);
        });
    }

    private static void promise2() {
        edge(2, "0 PEOPLE, 1 DOORS, 2 DAY, 3 TEXTS, 4 THE LAW, 5 bytes of THE TAPE.", "the least of each", () -> {
            each("count", new DoorOfLuck()::count, 0, 0, 0, 1, 0, 0);
        });
        edge(2, "0 PEOPLE, 1 DOORS, 2 DAY, 3 TEXTS, 4 THE LAW, 5 bytes of THE TAPE.", "the most of each", () -> {
            DoorOfLuck x = star();
            for (int p = 0; p < 6; p++) x.person(SOUL, 0);
            x.dawn(999);
            for (int t = 1; t < 6; t++) read(x, "gains 1;dares 1;leaves 0;");
            x.force(5);
            feedAll(x, " ".repeat(160));
            each("count", x::count, 6, 12, 999, 6, 5, 160);
        });
        edge(2, "BAD.", "what is below 0, above 5", () -> {
            DoorOfLuck x = lived();
            refused("count", BAD, outside(0, 5), x::count);
        });
    }

    private static void promise3() {
        edge(3, "DAY becomes v: what it was.", "0, 999, the same again", () -> {
            DoorOfLuck x = new DoorOfLuck();
            int[] days = {0, 999, 999, 0, 1, 998};
            for (int i = 0; i < days.length; i++) {
                Due.is("dawn(" + days[i] + ")", x.dawn(days[i]), i == 0 ? 0 : days[i - 1]);
                Due.is("count(2)", x.count(2), days[i]);
            }
        });
        edge(3, "BAD.", "below 0, above 999; the day stays", () -> {
            DoorOfLuck x = new DoorOfLuck();
            x.dawn(77);
            refused("dawn", BAD, outside(0, 999), x::dawn);
            Due.is("count(2)", x.count(2), 77);
        });
    }

    private static void promise4() {
        edge(4, "A DOOR between two HOUSES (one, other): its number.", "0 and 7, 7 and 0, the same two again", () -> {
            DoorOfLuck x = new DoorOfLuck();
            Due.is("0 7", x.door(0, 7), 0);
            Due.is("7 0", x.door(7, 0), 1);
            Due.is("0 7 again", x.door(0, 7), 2);
            each("the one", d -> x.hung(d, 0), 0, 7, 0);
            each("the other", d -> x.hung(d, 1), 7, 0, 7);
        });
        edge(4, "BAD: no such, one and the same;", "either below 0, above 7; each house and itself", () -> {
            DoorOfLuck x = new DoorOfLuck();
            refused("one", BAD, outside(0, 7), v -> x.door(v, 0));
            refused("other", BAD, outside(0, 7), v -> x.door(0, v));
            refused("both", BAD, outside(0, 7), v -> x.door(v, v));
            each("one and the same", v -> x.door(v, v), BAD, BAD, BAD, BAD, BAD, BAD, BAD, BAD);
            Due.is("no door came", x.count(1), 0);
        });
        edge(4, "BAD: no such, one and the same; FULL.", "the twelfth comes, a thirteenth does not; BAD ahead of it", () -> {
            DoorOfLuck x = new DoorOfLuck();
            for (int d = 0; d < 12; d++) Due.is("door", x.door(2, 3), d);
            Due.is("a thirteenth", x.door(2, 3), FULL);
            Due.is("again", x.door(0, 7), FULL);
            Due.is("no such", x.door(8, 0), BAD);
            Due.is("no such", x.door(0, -1), BAD);
            Due.is("one and the same", x.door(4, 4), BAD);
            Due.is("twelve", x.count(1), 12);
        });
    }

    private static void promise5() {
        edge(5, "(is 1), or not (0): as it was.", "what it is already; the first and the last of twelve", () -> {
            DoorOfLuck x = star();
            for (int d : new int[] {0, 11}) {
                Due.is("not, still", x.brick(d, 0), 0);
                Due.is("bricked", x.brick(d, 1), 0);
                Due.is("bricked, still", x.brick(d, 1), 1);
            }
            for (int d = 0; d < 12; d++) Due.is("door " + d, x.hung(d, 2), d == 0 || d == 11 ? 1 : 0);
            Due.is("not any more", x.brick(11, 0), 1);
            Due.is("door 0 is still", x.hung(0, 2), 1);
        });
        edge(5, "-5: no such DOOR;", "below 0, above the last one", () -> {
            refused("brick, of none", WHO, new int[] {-1, 0, 1, 11, 12}, d -> new DoorOfLuck().brick(d, 1));
            refused("brick, of three", WHO, outside(0, 2), d -> rowOfHouses().brick(d, 1));
            refused("brick, of twelve", WHO, outside(0, 11), d -> star().brick(d, 1));
        });
        edge(5, "-7: is.", "below 0, above 1", () -> {
            DoorOfLuck x = rowOfHouses();
            refused("brick", VALUE, outside(0, 1), v -> x.brick(0, v));
            Due.is("it stays", x.hung(0, 2), 0);
        });
        edge(5, "-5: no such DOOR; -7: is.", "-5 ahead of -7", () -> Due.is("brick", rowOfHouses().brick(3, 2), WHO));
    }

    private static void promise6() {
        edge(6, "The HOUSE told first (what 0), the other one (1)", "0 and 7, the first and the last of twelve", () -> {
            DoorOfLuck x = new DoorOfLuck();
            x.door(7, 0);
            for (int d = 1; d < 11; d++) x.door(3, 4);
            x.door(0, 7);
            Due.is("the first", x.hung(0, 0) * 10 + x.hung(0, 1), 70);
            Due.is("one between", x.hung(5, 0) * 10 + x.hung(5, 1), 34);
            Due.is("the last", x.hung(11, 0) * 10 + x.hung(11, 1), 7);
        });
        edge(6, "whether it is BRICKED (2; 1, 0)", "1 and 0, no other number, of the last of twelve, too", () -> {
            DoorOfLuck x = star();
            x.brick(11, 1);
            Due.is("bricked", x.hung(11, 2), 1);
            Due.is("not", x.hung(10, 2), 0);
        });
        edge(6, "whose END it is (3; bits)", "nobody's, the first one's, the sixth one's, of all", () -> {
            DoorOfLuck x = star();
            Due.is("without people", x.hung(0, 3), 0);
            for (int p = 0; p < 6; p++) x.person(SOUL, 0);
            Due.is("nobody's", x.hung(0, 3), 0);
            x.put(5, 2, 0);
            Due.is("the sixth one's", x.hung(0, 3), 32);
            for (int p = 0; p < 6; p++) x.put(p, 2, 11);
            Due.is("nobody's any more", x.hung(0, 3), 0);
            Due.is("of all", x.hung(11, 3), 63);
            x.put(0, 2, NONE);
            Due.is("but for the first one", x.hung(11, 3), 62);
        });
        edge(6, "who OPENED it (4; bits)", "nobody, the first one, the sixth one, all", () -> {
            DoorOfLuck x = star();
            for (int p = 0; p < 6; p++) x.person(SOUL, 0);
            Due.is("nobody", x.hung(11, 4), 0);
            x.open(5, 11);
            Due.is("the sixth one", x.hung(11, 4), 32);
            for (int p = 0; p < 5; p++) x.open(p, 11);
            Due.is("all", x.hung(11, 4), 63);
            Due.is("nobody, of the door ahead", x.hung(10, 4), 0);
            x.after(0, 1, 11);
            x.after(0, 1, 3);
            Due.is("who goes through behind one opens nothing", x.hung(3, 4), 1);
        });
        edge(6, "-5: no such DOOR;", "below 0, above the last one", () -> {
            refused("hung, of none", WHO, new int[] {-1, 0, 1, 11, 12}, d -> new DoorOfLuck().hung(d, 0));
            DoorOfLuck x = rowOfHouses();
            refused("hung, of three", WHO, outside(0, 2), d -> x.hung(d, 1));
            DoorOfLuck y = star();
            refused("hung, of twelve", WHO, outside(0, 11), d -> y.hung(d, 2));
        });
        edge(6, "-7: what.", "below 0, above 4", () -> {
            DoorOfLuck x = rowOfHouses();
            refused("hung", VALUE, outside(0, 4), v -> x.hung(0, v));
        });
        edge(6, "-5: no such DOOR; -7: what.", "-5 ahead of -7", () -> Due.is("hung", rowOfHouses().hung(3, 5), WHO));
    }

    private static void promise11() {
        edge(11, "(kindMore: 10 times KIND, and MORE; houseLuck: 100 times the HOUSE, and LUCK): the number.", "the least and the most", () -> {
            DoorOfLuck x = new DoorOfLuck();
            Due.is("0, 0", x.person(0, 0), 0);
            Due.is("59, 799", x.person(59, 799), 1);
            Due.is("9, 99", x.person(9, 99), 2);
            Due.is("10, 100", x.person(10, 100), 3);
            int[][] due = {{0, 0, NONE, 0, 0, 0}, {7, 99, NONE, 5, 9, 0}, {0, 99, NONE, 0, 9, 0}, {1, 0, NONE, 1, 0, 0}};
            for (int p = 0; p < 4; p++) {
                for (int what = 0; what < 6; what++) Due.is("told(" + p + ", " + what + ")", x.told(p, what), due[p][what]);
            }
        });
        edge(11, "BAD; FULL.", "kindMore below 0, above 59; houseLuck below 0, above 799", () -> {
            DoorOfLuck x = new DoorOfLuck();
            refused("kindMore", BAD, outside(0, 59), v -> x.person(v, 0));
            refused("houseLuck", BAD, outside(0, 799), v -> x.person(0, v));
            Due.is("nobody came", x.count(0), 0);
        });
        edge(11, "BAD; FULL.", "the sixth comes, a seventh does not; BAD ahead of FULL", () -> {
            DoorOfLuck x = new DoorOfLuck();
            for (int p = 0; p < 6; p++) Due.is("person", x.person(10 * p, p), p);
            Due.is("a seventh", x.person(0, 0), FULL);
            Due.is("kindMore", x.person(60, 0), BAD);
            Due.is("kindMore", x.person(-1, 0), BAD);
            Due.is("houseLuck", x.person(0, 800), BAD);
            Due.is("houseLuck", x.person(0, -1), BAD);
            Due.is("six", x.count(0), 6);
        });
    }

    private static void promise12() {
        edge(12, "The HOUSE (what 0), LUCK (1), END (2; -1: none) becomes v: what it was.", "the least and the most of each", () -> {
            DoorOfLuck x = star();
            x.person(SOUL, 0);
            int[] values = {0, 7, 0, 1, 99, 0, 2, 11, NONE};
            for (int i = 0; i < 9; i += 3) {
                int what = values[i], most = values[i + 1], least = values[i + 2];
                Due.is("the most", x.put(0, what, most), least);
                Due.is("it is", x.told(0, what), most);
                Due.is("the most again", x.put(0, what, most), most);
                Due.is("the least", x.put(0, what, least), most);
                Due.is("it is", x.told(0, what), least);
            }
            Due.is("door 0", x.put(0, 2, 0), NONE);
            Due.is("none", x.put(0, 2, NONE), 0);
        });
        edge(12, "-7: what, v.", "v below and above of each", () -> {
            DoorOfLuck x = star();
            x.person(SOUL, 344);
            x.put(0, 2, 5);
            refused("the house", VALUE, outside(0, 7), v -> x.put(0, 0, v));
            refused("luck", VALUE, outside(0, 99), v -> x.put(0, 1, v));
            refused("the end", VALUE, outside(-1, 11), v -> x.put(0, 2, v));
            each("all as it was", what -> x.told(0, what), 3, 44, 5);
        });
        edge(12, "-7: what, v.", "an end that is no door, without any and of three", () -> {
            DoorOfLuck x = new DoorOfLuck();
            x.person(SOUL, 0);
            Due.is("none is fine", x.put(0, 2, NONE), NONE);
            refused("of none", VALUE, outside(-1, -1), v -> x.put(0, 2, v));
            DoorOfLuck y = rowOfHouses();
            y.person(SOUL, 0);
            refused("of three", VALUE, outside(-1, 2), v -> y.put(0, 2, v));
        });
        edge(12, "-7: what, v.", "what below 0, above 2", () -> {
            DoorOfLuck x = rowOfHouses();
            x.person(SOUL, 0);
            refused("what", VALUE, outside(0, 2), v -> x.put(0, v, 0));
        });
        edge(12, "-5: none such; -7: what, v.", "nobody below 0, above the last one; ahead of -7", () -> {
            DoorOfLuck x = rowOfHouses();
            refused("of nobody", WHO, new int[] {-1, 0, 1, 5, 6}, v -> x.put(v, 0, 0));
            x.person(SOUL, 0);
            x.person(SOUL, 0);
            refused("of two", WHO, outside(0, 1), v -> x.put(v, 0, 0));
            Due.is("ahead of what", x.put(2, 3, 0), WHO);
            Due.is("ahead of v", x.put(-1, 0, 8), WHO);
        });
    }

    private static void promise13() {
        edge(13, "What 0 the HOUSE, 1 LUCK, 2 END (-1: none), 3 KIND, 4 MORE, 5 what one OPENED (bits)", "the least and the most", () -> {
            DoorOfLuck x = star();
            x.person(0, 0);
            x.person(GYPSY + 9, 0);
            for (int d = 0; d < 12; d++) {
                x.open(1, d);
                x.put(1, 0, 0);
            }
            x.put(1, 0, 7);
            x.put(1, 1, 99);
            x.put(1, 2, 11);
            each("the least", what -> x.told(0, what), 0, 0, NONE, 0, 0, 0);
            each("the most", what -> x.told(1, what), 7, 99, 11, 5, 9, 4095);
        });
        edge(13, "-5: none such;", "below 0, above the last one", () -> {
            refused("told, of nobody", WHO, new int[] {-1, 0, 1, 5, 6}, p -> rowOfHouses().told(p, 0));
            DoorOfLuck x = rowOfHouses();
            for (int n = 0; n < 6; n++) {
                x.person(SOUL, 0);
                refused("told, of " + (n + 1), WHO, outside(0, n), p -> x.told(p, 0));
            }
        });
        edge(13, "-7: what.", "below 0, above 7; -5 ahead of it", () -> {
            DoorOfLuck x = rowOfHouses();
            x.person(SOUL, 0);
            refused("what", VALUE, outside(0, 7), v -> x.told(0, v));
            Due.is("nobody", x.told(1, 8), WHO);
            Due.is("nobody", x.told(-1, -1), WHO);
        });
    }

    private static void promise13ends() {
        edge(13, "LUCK is 0: those one OPENED, else those one didn't", "luck 0, 1, 99; opened none, one, all", () -> {
            DoorOfLuck x = star();
            x.person(GYPSY, 0);
            Due.is("0, none", x.told(0, 6), 0);
            x.put(0, 1, 1);
            Due.is("1, none", x.told(0, 6), 4095);
            x.open(0, 11);
            x.put(0, 0, 0);
            Due.is("1, door 11", x.told(0, 6), 2047);
            x.put(0, 1, 0);
            Due.is("0, door 11", x.told(0, 6), 2048);
            for (int d = 0; d < 12; d++) {
                x.open(0, d);
                x.put(0, 0, 0);
            }
            Due.is("0, all", x.told(0, 6), 4095);
            x.put(0, 1, 99);
            Due.is("99, all", x.told(0, 6), 0);
        });
        edge(13, "LUCK is 0: those one OPENED, else those one didn't", "of no doors at all; one's end is of no account", () -> {
            DoorOfLuck x = new DoorOfLuck();
            x.person(SOUL, 40);
            Due.is("no doors, luck", x.told(0, 6), 0);
            x.put(0, 1, 0);
            Due.is("no doors, no luck", x.told(0, 6), 0);
            DoorOfLuck y = rowOfHouses();
            y.person(SOUL, 40);
            y.put(0, 2, 1);
            Due.is("three doors", y.told(0, 6), 7);
            y.brick(0, 1);
            Due.is("a bricked one, too", y.told(0, 6), 7);
        });
        edge(13, "7 HOUSES (bits) there is a WAY to of one alone.", "one's own alone, all eight, not by one's end", () -> {
            DoorOfLuck none = new DoorOfLuck();
            none.person(SOUL, 0);
            none.person(SOUL, 700);
            Due.is("house 0 alone", none.told(0, 7), 1);
            Due.is("house 7 alone", none.told(1, 7), 128);
            DoorOfLuck x = star();
            x.person(SOUL, 700);
            Due.is("all", x.told(0, 7), 255);
            x.put(0, 2, 6);
            Due.is("not by one's end", x.told(0, 7), 128);
            DoorOfLuck far = town(6, 7, 5, 6, 4, 5, 3, 4, 2, 3, 1, 2, 0, 1);
            far.person(SOUL, 0);
            Due.is("seven doors far", far.told(0, 7), 255);
        });
    }
}
