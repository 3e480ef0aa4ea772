/** Boundary cases of opening, ways and what is best: promises 14 to 24. */
final class EdgesOfOpening extends Edges {
    private static final int[] NOBODY = {MIN, -1, 0, 1, 5, 6, MAX};

    private EdgesOfOpening() {
    }

    static void all() {
        promise14();
        promise15();
        promise16();
        promise17();
        promise18();
        promise19();
        promise20();
        promise21();
        promise22();
        promise23();
        promise24();
    }

    private static DoorOfLuck withTwo() {
        DoorOfLuck x = rowOfHouses();
        x.person(SOUL, 40);
        x.person(SOUL, 50);
        return x;
    }

    private static void promise14() {
        edge(14, "One OPENS a DOOR, truly: LUCK then.", "luck to 0 and to 99, not past them", () -> {
            DoorOfLuck x = town(0, 1);
            x.person(SOUL, 96);
            Due.is("96 and 3", x.open(0, 0), 99);
            Due.is("99 and 3", x.open(0, 0), 99);
            law(x, "gains 0-98;dares 1;leaves 0;");
            Due.is("99 less 98", x.open(0, 0), 1);
            Due.is("1 less 98", x.open(0, 0), 0);
            Due.is("luck is", x.told(0, 1), 0);
            Due.is("four times through", x.told(0, 0), 0);
        });
        edge(14, "-5: none such;", "below 0, above the last one", () -> {
            refused("open, of nobody", WHO, NOBODY, p -> rowOfHouses().open(p, 0));
            DoorOfLuck x = withTwo();
            refused("open, of two", WHO, outside(0, 1), p -> x.open(p, 0));
        });
        edge(14, "-6: no such DOOR;", "below 0, above the last one, without any", () -> {
            DoorOfLuck x = withTwo();
            refused("open, of three", WHICH_DOOR, outside(0, 2), d -> x.open(0, d));
            DoorOfLuck none = new DoorOfLuck();
            none.person(SOUL, 0);
            refused("open, of none", WHICH_DOOR, new int[] {-1, 0, 1, 11, 12}, d -> none.open(0, d));
        });
        edge(14, "STATE: it isn't of that HOUSE, one doesn't DARE.", "each of the two, and nothing is otherwise", () -> {
            DoorOfLuck x = withTwo();
            Due.is("not of house 0", x.open(0, 1), STATE);
            Due.is("nor the last", x.open(0, 2), STATE);
            x.brick(0, 1);
            Due.is("bricked", x.open(0, 0), STATE);
            x.brick(0, 0);
            law(x, "gains 3;dares 0;leaves 0;");
            Due.is("not dared", x.open(0, 0), STATE);
            Due.is("all as it was", x.told(0, 0) + x.told(0, 5) + x.told(0, 1), 40);
        });
        edge(14, "-5: none such; -6: no such DOOR; STATE", "-5 ahead of -6, -6 ahead of STATE", () -> {
            DoorOfLuck x = withTwo();
            Due.is("nobody, no door", x.open(2, 3), WHO);
            x.put(0, 0, 7);
            Due.is("no door, of no such house", x.open(0, 3), WHICH_DOOR);
        });
    }

    private static void promise15() {
        edge(15, "another one who is in the same HOUSE goes through, too: LUCK of the one then.", "in either order, the other one's luck and doors stay", () -> {
            DoorOfLuck x = withTwo();
            Due.is("the first, the second behind", x.after(0, 1, 0), 43);
            Due.is("both are there", x.told(0, 0) * 10 + x.told(1, 0), 11);
            Due.is("back: the second, the first behind", x.after(1, 0, 0), 53);
            Due.is("both are back", x.told(0, 0) * 10 + x.told(1, 0), 0);
            Due.is("luck of the first", x.told(0, 1), 43);
            x.after(0, 1, 0);
            x.after(0, 1, 1);
            Due.is("what the second opened", x.told(1, 5), 1);
        });
        edge(15, "another one who is in the same HOUSE goes through, too", "who doesn't dare, by one's own end; to 99 and no further", () -> {
            DoorOfLuck x = rowOfHouses();
            x.person(SOUL, 98);
            x.person(GYPSY, 50);
            x.put(1, 2, 0);
            Due.is("to 99", x.after(0, 1, 0), 99);
            Due.is("through her own end", x.told(1, 0), 1);
            Due.is("with all her luck", x.told(1, 1), 50);
        });
        edge(15, "-5: no such two, one and the same;", "either below 0, above the last one; each and oneself", () -> {
            refused("after, of nobody", WHO, NOBODY, p -> rowOfHouses().after(p, 0, 0));
            DoorOfLuck x = withTwo();
            refused("the one", WHO, outside(0, 1), p -> x.after(p, 1, 0));
            refused("the other", WHO, outside(0, 1), p -> x.after(0, p, 0));
            each("oneself", p -> x.after(p, p, 0), WHO, WHO);
            Due.is("nobody moved", x.told(0, 0) + x.told(1, 0), 0);
        });
        edge(15, "-6: no such DOOR;", "below 0, above the last one; behind -5", () -> {
            DoorOfLuck x = withTwo();
            refused("after", WHICH_DOOR, outside(0, 2), d -> x.after(0, 1, d));
            Due.is("nobody ahead", x.after(0, 2, 3), WHO);
            Due.is("oneself ahead", x.after(0, 0, 3), WHO);
        });
        edge(15, "STATE: they aren't in one HOUSE, it isn't of that, the one doesn't DARE.", "each of the three; -6 ahead of it", () -> {
            DoorOfLuck x = withTwo();
            x.put(1, 0, 1);
            Due.is("not in one house, the door of both", x.after(0, 1, 0), STATE);
            Due.is("-6 ahead", x.after(0, 1, 3), WHICH_DOOR);
            x.put(1, 0, 0);
            Due.is("not of that house", x.after(0, 1, 1), STATE);
            x.brick(0, 1);
            Due.is("not dared", x.after(0, 1, 0), STATE);
            Due.is("nobody moved", x.told(0, 0) + x.told(1, 0) + x.told(0, 5), 0);
        });
        edge(15, "the one doesn't DARE", "the other one need not", () -> {
            DoorOfLuck x = rowOfHouses();
            x.person(SOUL, 0);
            x.person(FOOTMAN, 0);
            law(x, "gains 3;dares 0;leaves 0;");
            Due.is("a soul, who doesn't", x.after(0, 1, 0), STATE);
            Due.is("a footman, a soul behind", x.after(1, 0, 0), 3);
            Due.is("the soul is through", x.told(0, 0), 1);
        });
    }

    private static void promise16() {
        edge(16, "Whether a DOOR is SAFE for one (1, 0).", "the first and the last of twelve; one's end; a bricked one", () -> {
            DoorOfLuck x = new DoorOfLuck();
            for (int d = 0; d < 12; d++) x.door(0, 1);
            x.person(SOUL, 700);
            for (int d = 0; d < 12; d++) Due.is("door " + d, x.safe(0, d), 1);
            x.put(0, 2, 11);
            x.brick(0, 1);
            for (int d = 0; d < 12; d++) Due.is("then door " + d, x.safe(0, d), d > 0 && d < 11 ? 1 : 0);
        });
        edge(16, "-5: none such;", "below 0, above the last one", () -> {
            refused("safe, of nobody", WHO, NOBODY, p -> rowOfHouses().safe(p, 0));
            DoorOfLuck x = withTwo();
            refused("safe, of two", WHO, outside(0, 1), p -> x.safe(p, 0));
        });
        edge(16, "-6: no such DOOR.", "below 0, above the last one; behind -5", () -> {
            DoorOfLuck x = withTwo();
            refused("safe", WHICH_DOOR, outside(0, 2), d -> x.safe(0, d));
            Due.is("nobody ahead", x.safe(2, 3), WHO);
        });
    }

    private static void promise17() {
        edge(17, "how many DOORS (what 0; -1: there is none)", "0, 1, 7, none", () -> {
            DoorOfLuck x = town(0, 1, 1, 2, 2, 3, 3, 4, 4, 5, 5, 6, 6, 7);
            x.person(SOUL, 0);
            Due.is("0", x.way(0, 0, 0), 0);
            Due.is("1", x.way(0, 1, 0), 1);
            Due.is("7", x.way(0, 7, 0), 7);
            x.brick(6, 1);
            Due.is("none", x.way(0, 7, 0), NONE);
            Due.is("6", x.way(0, 6, 0), 6);
        });
        edge(17, "these as a number (1; 17 times that of those ahead of the last one, and that one, and 1; no DOORS: 0; -1)", "no doors, one, seven; there is none", () -> {
            DoorOfLuck x = town(3, 4, 3, 5, 3, 4, 4, 5, 5, 6, 0, 1, 1, 2, 2, 3, 3, 4, 4, 5, 5, 6, 6, 7);
            for (int d = 0; d < 5; d++) x.brick(d, 1);
            x.person(SOUL, 0);
            Due.is("no doors", x.way(0, 0, 1), 0);
            Due.is("one", x.way(0, 1, 1), 6);
            int number = 0;
            for (int d = 5; d < 12; d++) number = 17 * number + d + 1;
            Due.is("seven, to the twelfth door", x.way(0, 7, 1), number);
            x.brick(11, 1);
            Due.is("none", x.way(0, 7, 1), NONE);
            x.put(0, 0, 7);
            Due.is("no doors, as none is dared", x.way(0, 7, 1), 0);
        });
        edge(17, "these as a number", "by door 0 it is 1, not 0", () -> {
            DoorOfLuck x = town(0, 1, 1, 2);
            x.person(SOUL, 0);
            Due.is("door 0", x.way(0, 1, 1), 1);
            Due.is("0 and 1", x.way(0, 2, 1), 19);
        });
        edge(17, "-5: none such;", "below 0, above the last one", () -> {
            refused("way, of nobody", WHO, NOBODY, p -> rowOfHouses().way(p, 0, 0));
            DoorOfLuck x = withTwo();
            refused("way, of two", WHO, outside(0, 1), p -> x.way(p, 0, 0));
        });
        edge(17, "-7: house, what.", "house below 0, above 7; what below 0, above 1; behind -5", () -> {
            DoorOfLuck x = withTwo();
            refused("house", VALUE, outside(0, 7), v -> x.way(0, v, 0));
            refused("house, as a number", VALUE, outside(0, 7), v -> x.way(0, v, 1));
            refused("what", VALUE, outside(0, 1), v -> x.way(0, 0, v));
            Due.is("nobody ahead of house", x.way(2, 8, 0), WHO);
            Due.is("nobody ahead of what", x.way(2, 0, 2), WHO);
        });
    }

    private static void promise18() {
        edge(18, "some (bits, one at least)", "one, the sixth alone, all six", () -> {
            DoorOfLuck x = rowOfHouses();
            for (int p = 0; p < 6; p++) x.person(SOUL, 0);
            Due.is("the first", x.together(1, 3), 3);
            Due.is("the sixth", x.together(32, 3), 3);
            Due.is("all", x.together(63, 3), 3);
            Due.is("none of them", x.together(0, 3), BAD);
            Due.is("one more", x.together(64, 3), BAD);
        });
        edge(18, "BAD: some, house;", "bits of nobody, none, below 0; house below 0, above 7", () -> {
            DoorOfLuck x = rowOfHouses();
            refused("some, of nobody", BAD, new int[] {MIN, -1, 0, 1, 2, 63, 64, MAX}, v -> x.together(v, 0));
            for (int p = 0; p < 6; p++) {
                x.person(SOUL, 0);
                refused("some", BAD, outside(1, (2 << p) - 1), v -> x.together(v, 0));
            }
            refused("house", BAD, outside(0, 7), v -> x.together(1, v));
        });
        edge(18, "-1: there is none.", "a house that nobody comes to; where they are it is 0", () -> {
            DoorOfLuck x = withTwo();
            Due.is("none", x.together(3, 7), NONE);
            Due.is("where they are", x.together(3, 0), 0);
        });
        edge(18, "STATE: they aren't in one HOUSE.", "two of them, the first and the last of six; behind BAD", () -> {
            DoorOfLuck x = rowOfHouses();
            for (int p = 0; p < 6; p++) x.person(SOUL, p == 5 ? 100 : 0);
            Due.is("all", x.together(63, 0), STATE);
            Due.is("the first and the last", x.together(33, 0), STATE);
            Due.is("but for the last", x.together(31, 1), 1);
            Due.is("the last alone", x.together(32, 0), 1);
            Due.is("house ahead", x.together(63, 8), BAD);
            Due.is("some ahead", x.together(127, 0), BAD);
        });
    }

    private static void promise19() {
        edge(19, "(what 0; -1: nobody), to how many (1; as so)", "nobody else is there; nobody is better", () -> {
            DoorOfLuck x = rowOfHouses();
            x.person(SOUL, 0);
            Due.is("alone", x.friend(0, 0), NONE);
            Due.is("alone, to all four", x.friend(0, 1), 4);
            x.person(SOUL, 0);
            Due.is("to no more", x.friend(0, 0), NONE);
            Due.is("to no more", x.friend(0, 1), 4);
            x.put(0, 0, 7);
            Due.is("one's own house alone", x.friend(0, 1), 1);
        });
        edge(19, "if to more than of one alone, of like ones the first", "one house more is enough; of like ones the least number", () -> {
            DoorOfLuck x = rowOfHouses();
            x.person(LADY, 0);
            x.put(0, 2, 2);
            x.person(LADY, 0);
            x.put(1, 2, 2);
            for (int p = 2; p < 5; p++) x.person(SOUL, 0);
            Due.is("the third, by one house", x.friend(0, 0), 2);
            Due.is("four", x.friend(0, 1), 4);
            Due.is("whoever comes everywhere alone", x.friend(3, 0), NONE);
            x.put(2, 2, 2);
            Due.is("then the fourth", x.friend(0, 0), 3);
            Due.is("of the second one, too", x.friend(1, 0), 3);
        });
        edge(19, "The other one such that, wherever that one is,", "in a house far off, told of that house", () -> {
            DoorOfLuck x = rowOfHouses();
            x.person(LADY, 0);
            x.put(0, 2, 0);
            x.person(SOUL, 700);
            law(x, "gains 0;dares house=7 or house=0;leaves 0;");
            Due.is("from house 7", x.friend(0, 0), 1);
            Due.is("all four", x.friend(0, 1), 4);
            x.put(1, 0, 1);
            Due.is("from house 1 that one dares nothing", x.friend(0, 0), NONE);
            Due.is("one's own house", x.friend(0, 1), 1);
        });
        edge(19, "The other one such that", "oneself is none, be one the first or the last", () -> {
            DoorOfLuck x = rowOfHouses();
            x.person(SOUL, 0);
            x.person(SOUL, 0);
            x.put(0, 2, 0);
            Due.is("of the first the second", x.friend(0, 0), 1);
            x.put(0, 2, NONE);
            x.put(1, 2, 0);
            Due.is("of the second the first", x.friend(1, 0), 0);
        });
        edge(19, "-5: none such; -7: what.", "below 0, above the last one; what below 0, above 1; -5 ahead", () -> {
            refused("friend, of nobody", WHO, NOBODY, p -> rowOfHouses().friend(p, 0));
            DoorOfLuck x = withTwo();
            refused("friend, of two", WHO, outside(0, 1), p -> x.friend(p, 0));
            refused("what", VALUE, outside(0, 1), v -> x.friend(0, v));
            Due.is("nobody ahead", x.friend(2, 2), WHO);
        });
    }

    private static void promise20() {
        edge(20, "(what 0; -1: of nobody), of how many (1; 0)", "without doors, without people, without ends", () -> {
            DoorOfLuck x = new DoorOfLuck();
            each("nothing there", x::worst, NONE, 0);
            x.person(SOUL, 0);
            each("no doors", x::worst, NONE, 0);
            x.door(0, 1);
            each("no end", x::worst, NONE, 0);
            x.put(0, 2, 0);
            each("one", x::worst, 0, 1);
            each("nobody", rowOfHouses()::worst, NONE, 0);
        });
        edge(20, "of like ones the first", "the first of twelve, the last, of two likes", () -> {
            DoorOfLuck x = new DoorOfLuck();
            for (int d = 0; d < 12; d++) x.door(0, 1);
            for (int p = 0; p < 6; p++) x.person(SOUL, 0);
            x.put(5, 2, 11);
            each("the last", x::worst, 11, 1);
            x.put(4, 2, 0);
            each("the first of like ones", x::worst, 0, 1);
            x.put(3, 2, 11);
            each("of two", x::worst, 11, 2);
            for (int p = 0; p < 6; p++) x.put(p, 2, 7);
            each("of six", x::worst, 7, 6);
        });
        edge(20, "BAD.", "what below 0, above 1", () -> {
            DoorOfLuck x = withTwo();
            refused("worst", BAD, outside(0, 1), x::worst);
        });
    }

    private static void promise21() {
        edge(21, "(what 0; -1: none), to how many (1; as so)", "without doors, without people, none is better", () -> {
            DoorOfLuck x = new DoorOfLuck();
            each("nothing there", x::mason, NONE, 0);
            x.person(SOUL, 0);
            x.person(SOUL, 0);
            each("no doors: each one's own house", x::mason, NONE, 2);
            x.door(0, 1);
            each("none is better", x::mason, NONE, 4);
            each("nobody", rowOfHouses()::mason, NONE, 0);
        });
        edge(21, "were it BRICKED, if it isn't, or not, if it is", "a door to open again; the last of twelve", () -> {
            DoorOfLuck x = new DoorOfLuck();
            for (int d = 0; d < 11; d++) x.door(1, 2);
            x.door(0, 1);
            x.person(SOUL, 0);
            x.brick(11, 1);
            each("the twelfth", x::mason, 11, 3);
            x.brick(11, 0);
            each("none", x::mason, NONE, 3);
            Due.is("it is not bricked", x.hung(11, 2), 0);
        });
        edge(21, "of like ones the first", "the first of twelve, alone and of likes", () -> {
            DoorOfLuck x = new DoorOfLuck();
            for (int d = 0; d < 12; d++) x.door(0, 1);
            x.person(SOUL, 0);
            for (int d = 0; d < 12; d++) x.brick(d, 1);
            each("of twelve likes", x::mason, 0, 2);
            DoorOfLuck y = town(0, 1, 2, 3);
            y.person(SOUL, 0);
            y.brick(0, 1);
            each("alone", y::mason, 0, 2);
        });
        edge(21, "if to more than so, of like ones the first", "one house more is enough; of like ones the least number", () -> {
            DoorOfLuck x = rowOfHouses();
            x.person(SOUL, 0);
            x.brick(2, 1);
            each("one more", x::mason, 2, 4);
            x.door(2, 3);
            each("as many as so", x::mason, NONE, 4);
            x.brick(3, 1);
            each("the first of two", x::mason, 2, 4);
        });
        edge(21, "BAD.", "what below 0, above 1", () -> {
            DoorOfLuck x = withTwo();
            refused("mason", BAD, outside(0, 1), x::mason);
        });
    }

    private static void promise22() {
        edge(22, "that of fewest", "none: without an end, with one that is bricked, not dared, not reached", () -> {
            DoorOfLuck x = withTwo();
            each("no end", what -> x.watch(0, what), 0, 0);
            x.put(0, 2, 2);
            each("the first door", what -> x.watch(0, what), 1, 1);
            x.brick(1, 1);
            each("not reached", what -> x.watch(0, what), 0, 0);
            x.brick(1, 0);
            x.brick(2, 1);
            each("bricked", what -> x.watch(0, what), 0, 0);
            x.brick(2, 0);
            law(x, "gains 0;dares 1-door;leaves 0;");
            each("door 2 is dared, door 1 is not", what -> x.watch(0, what), 0, 0);
            DoorOfLuck none = new DoorOfLuck();
            none.person(SOUL, 0);
            each("no doors", what -> none.watch(0, what), 0, 0);
        });
        edge(22, "of like ones the least as bits (what 0; bits), how many (1)", "the least of those on one's way; one's end, of twelve the last", () -> {
            DoorOfLuck x = town(3, 4, 2, 3, 1, 2, 0, 1);
            x.person(SOUL, 0);
            x.put(0, 2, 0);
            each("the end is the least", what -> x.watch(0, what), 1, 1);
            x.put(0, 2, 1);
            each("the end", what -> x.watch(0, what), 2, 1);
            x.put(0, 0, 3);
            each("from its other side", what -> x.watch(0, what), 2, 1);
            DoorOfLuck y = new DoorOfLuck();
            for (int d = 0; d < 11; d++) y.door(0, 1);
            y.door(1, 2);
            y.person(SOUL, 0);
            y.put(0, 2, 11);
            each("eleven to its house, then it", what -> y.watch(0, what), 2048, 1);
        });
        edge(22, "-5: none such; -7: what.", "below 0, above the last one; what below 0, above 1; -5 ahead", () -> {
            refused("watch, of nobody", WHO, NOBODY, p -> rowOfHouses().watch(p, 0));
            DoorOfLuck x = withTwo();
            refused("watch, of two", WHO, outside(0, 1), p -> x.watch(p, 0));
            refused("what", VALUE, outside(0, 1), v -> x.watch(0, v));
            Due.is("nobody ahead", x.watch(2, 2), WHO);
        });
    }

    private static void promise23() {
        edge(23, "PEOPLE (bits) who are IN DANGER, but for none.", "nobody, the first, the sixth, all", () -> {
            DoorOfLuck x = rowOfHouses();
            Due.is("without people", x.doomed(), 0);
            for (int p = 0; p < 6; p++) x.person(SOUL, 100 * (p % 4));
            Due.is("without ends", x.doomed(), 0);
            x.put(0, 2, 2);
            Due.is("the first", x.doomed(), 1);
            x.put(0, 2, NONE);
            x.put(5, 2, 2);
            Due.is("the sixth", x.doomed(), 32);
            for (int p = 0; p < 6; p++) x.put(p, 2, 0);
            Due.is("all", x.doomed(), 63);
            DoorOfLuck none = new DoorOfLuck();
            none.person(SOUL, 0);
            Due.is("without doors", none.doomed(), 0);
        });
    }

    private static void promise24() {
        edge(24, "in lowest terms.", "0, all there is, one of 99, six people", () -> {
            DoorOfLuck x = new DoorOfLuck();
            x.person(SOUL, 0);
            each("0 of 99", x::share, 0, 1);
            x.put(0, 1, 99);
            each("99 of 99", x::share, 1, 1);
            x.put(0, 1, 1);
            each("1 of 99", x::share, 1, 99);
            x.put(0, 1, 98);
            each("98 of 99", x::share, 98, 99);
            for (int p = 1; p < 6; p++) x.person(SOUL, 0);
            each("98 of 594", x::share, 49, 297);
            for (int p = 0; p < 6; p++) x.put(p, 1, 99);
            each("594 of 594", x::share, 1, 1);
            x.put(3, 1, 98);
            each("593 of 594", x::share, 593, 594);
        });
        edge(24, "NO: part, nobody.", "part below 0, above 1; nobody", () -> {
            each("nobody", rowOfHouses()::share, NO, NO);
            refused("nobody, no part", NO, outside(0, 1), new DoorOfLuck()::share);
            DoorOfLuck x = withTwo();
            refused("part", NO, outside(0, 1), x::share);
        });
    }
}
