/** Boundary cases of the host: promises 38 to 42. */
final class EdgesOfHost extends Edges {
    private EdgesOfHost() {
    }

    static void all() {
        promise38();
        promise39();
        promise40();
        promise40refuses();
        promise41();
        promise41refuses();
        promise42();
    }

    private static void promise38() {
        edge(38, "A SHEET becomes a row of n of a sort, all 0,", "n 0, 1, 40 of each sort, each of four sheets", () -> {
            DoorOfLuck x = town(0, 1);
            x.person(SOUL, 0);
            for (int s = 0; s < 4; s++) {
                for (int sort = 0; sort < 3; sort++) {
                    for (int n : new int[] {40, 1, 0}) {
                        Due.is("sheet", x.sheet(s, sort, n), 1);
                        Due.is("so many 0", x.walk(s, 0, 2), n);
                        Due.is("the place behind", x.cell(s, n, 0), OUTSIDE);
                        if (n > 0) Due.is("the last place", x.cell(s, n - 1, 0), 1);
                    }
                }
            }
        });
        edge(38, "all 0,", "again, with what stood there before", () -> {
            DoorOfLuck x = town(0, 1);
            x.person(SOUL, 0);
            x.sheet(0, INTS, 40);
            for (int i = 0; i < 40; i++) x.cell(0, i, 7);
            x.sheet(0, INTS, 0);
            x.sheet(0, BYTES, 40);
            Due.is("forty 0", x.walk(0, 0, 2), 40);
        });
        edge(38, "or missing (sort -1: n does not matter): 1.", "n below 0, above 40; one that is missing already", () -> {
            DoorOfLuck x = new DoorOfLuck();
            for (int n : new int[] {MIN, -1, 0, 1, 40, 41, MAX}) {
                x.sheet(2, INTS, 1);
                Due.is("n " + n, x.sheet(2, -1, n), 1);
                Due.is("missing", x.cell(2, 0, 0), MISSING);
                Due.is("again", x.sheet(2, -1, n), 1);
            }
        });
        edge(38, "BAD: SHEET, sort, n above 40;", "each below, above", () -> {
            DoorOfLuck x = new DoorOfLuck();
            x.sheet(0, INTS, 2);
            refused("sheet", BAD, outside(0, 3), v -> x.sheet(v, INTS, 1));
            refused("sheet, to be missing", BAD, outside(0, 3), v -> x.sheet(v, -1, 1));
            refused("sort", BAD, outside(-1, 2), v -> x.sheet(0, v, 1));
            for (int sort = 0; sort < 3; sort++) {
                int so = sort;
                refused("n", BAD, new int[] {41, 42, 256, 296, 65536, MAX}, v -> x.sheet(0, so, v));
            }
            Due.is("two, still", x.cell(0, 1, 0), 1);
        });
        edge(38, "-14.", "n below 0; BAD ahead of it", () -> {
            DoorOfLuck x = new DoorOfLuck();
            for (int sort = 0; sort < 3; sort++) {
                int so = sort;
                refused("n", BELOW, new int[] {-1, -2, -40, -41, -256, -65536, MIN}, v -> x.sheet(0, so, v));
            }
            Due.is("still missing", x.cell(0, 0, 0), MISSING);
            Due.is("the sheet ahead", x.sheet(4, 0, -1), BAD);
            Due.is("the sort ahead", x.sheet(0, 3, -1), BAD);
            Due.is("the sort ahead", x.sheet(0, -2, -1), BAD);
        });
    }

    /** The number that a cell of a sheet of one cell holds, if it is LUCK or a DOOR; else -1. */
    private static long held(int sort, int v) {
        DoorOfLuck x = town(0, 1);
        x.person(SOUL, 700);
        row(x, 0, INTS, 0);
        row(x, 1, sort, v);
        return x.lucks(0, 1, 0, 1);
    }

    private static void promise39() {
        edge(39, "(of bytes, shorts its lowest 8, 16 bits)", "numbers that pass them, up and down", () -> {
            Due.is("byte 99", held(BYTES, 99), 99);
            Due.is("byte 256", held(BYTES, 256), 0);
            Due.is("byte 255", held(BYTES, 255), NONE);
            Due.is("byte -256 and 7", held(BYTES, 7 - 256), 7);
            Due.is("byte 65536 and 7", held(BYTES, 65536 + 7), 7);
            Due.is("byte, the least int", held(BYTES, MIN), 0);
            Due.is("byte, the most", held(BYTES, MAX), NONE);
            Due.is("short 99", held(SHORTS, 99), 99);
            Due.is("short 256", held(SHORTS, 256), NONE);
            Due.is("short 65535", held(SHORTS, 65535), NONE);
            Due.is("short 65536", held(SHORTS, 65536), 0);
            Due.is("short -65536 and 7", held(SHORTS, 7 - 65536), 7);
            Due.is("short, the least int", held(SHORTS, MIN), 0);
            Due.is("int 99", held(INTS, 99), 99);
            Due.is("int 256", held(INTS, 256), NONE);
            Due.is("int 65536", held(INTS, 65536), NONE);
            Due.is("int, the least", held(INTS, MIN), NONE);
        });
        edge(39, "(of bytes, shorts its lowest 8, 16 bits)", "signed, as the host's bytes and shorts are", () -> {
            DoorOfLuck x = new DoorOfLuck();
            row(x, 0, BYTES, 0, 127, 0, 128, 0, 255);
            Due.is("127 is, 128 and 255 are below 0", x.peopleBy(0, BYTES, 0, 3), 1);
            Due.is("house 1, luck 27", x.told(0, 0) * 100 + x.told(0, 1), 127);
            row(x, 1, SHORTS, 0, 799, 0, 65535, 0, 32768);
            Due.is("799 is, 65535 and 32768 are below 0", x.peopleBy(1, SHORTS, 0, 3), 1);
        });
        edge(39, "Number i of a SHEET becomes v", "the first and the last of forty, no other", () -> {
            DoorOfLuck x = town(0, 1, 1, 2);
            x.person(SOUL, 0);
            x.sheet(0, INTS, 40);
            Due.is("the first", x.cell(0, 0, 1), 1);
            Due.is("the last", x.cell(0, 39, 1), 1);
            // Door 1 isn't of house 0; 38 times door 0 leads back to it.
            Due.is("thirty-eight are 0", x.walk(0, 0, 2), 38);
        });
        edge(39, "BAD: SHEET; -11; -12.", "each, ahead of the next", () -> {
            DoorOfLuck x = new DoorOfLuck();
            refused("sheet", BAD, outside(0, 3), s -> x.cell(s, -1, 0));
            Due.is("missing, ahead of a place", x.cell(0, -1, 0), MISSING);
            x.sheet(0, INTS, 40);
            refused("place of forty", OUTSIDE, outside(0, 39), i -> x.cell(0, i, 0));
            x.sheet(0, INTS, 1);
            refused("place of one", OUTSIDE, outside(0, 0), i -> x.cell(0, i, 0));
            x.sheet(0, INTS, 0);
            refused("place of none", OUTSIDE, new int[] {MIN, -1, 0, 1, 39, MAX}, i -> x.cell(0, i, 0));
        });
    }

    /** What two cells of a sheet hold, as of person(): KIND, MORE, HOUSE, LUCK in one number; -1: none such. */
    private static long pair(DoorOfLuck x, int s, int from) {
        x.image();
        long seen = -1;
        if (x.peopleBy(s, INTS, from, 1) == 1) {
            int p = x.count(0) - 1;
            seen = (x.told(p, 3) * 10L + x.told(p, 4)) * 1000 + x.told(p, 0) * 100 + x.told(p, 1);
        }
        x.back();
        return seen;
    }

    private static DoorOfLuck numbered() {
        DoorOfLuck x = new DoorOfLuck();
        row(x, 0, INTS, 10, 11, 12, 13, 14, 15);
        row(x, 1, INTS, 20, 21, 22, 23);
        return x;
    }

    private static void are(DoorOfLuck x, int s, int... due) {
        for (int i = 0; i < due.length; i += 2) Due.is("sheet " + s + " from " + i, pair(x, s, i), due[i] * 1000 + due[i + 1]);
        Due.is("and no more", x.cell(s, due.length, 0), OUTSIDE);
    }

    private static void promise40() {
        edge(40, "n numbers of a SHEET, from i on, come to another one's (or its own) place j", "none, one, all; to the first place, to the last", () -> {
            DoorOfLuck x = numbered();
            Due.is("one, the last to the last", x.copy(0, 5, 1, 3, 1), 1);
            are(x, 1, 20, 21, 22, 15);
            Due.is("one, the first to the first", x.copy(0, 0, 1, 0, 1), 1);
            are(x, 1, 10, 21, 22, 15);
            Due.is("all of the lesser", x.copy(1, 0, 0, 2, 4), 4);
            are(x, 0, 10, 11, 10, 21, 22, 15);
            are(x, 1, 10, 21, 22, 15);
        });
        edge(40, "(as they were)", "its own: forward, backward, onto itself", () -> {
            DoorOfLuck x = numbered();
            Due.is("forward", x.copy(0, 0, 0, 1, 5), 5);
            are(x, 0, 10, 10, 11, 12, 13, 14);
            Due.is("backward", x.copy(0, 2, 0, 0, 4), 4);
            are(x, 0, 11, 12, 13, 14, 13, 14);
            Due.is("onto itself", x.copy(0, 0, 0, 0, 6), 6);
            are(x, 0, 11, 12, 13, 14, 13, 14);
        });
        edge(40, "place j (as they were): n.", "n 0, behind the last place, too; of sheets of none", () -> {
            DoorOfLuck x = numbered();
            Due.is("none", x.copy(0, 0, 1, 0, 0), 0);
            Due.is("none, behind all", x.copy(0, 6, 1, 4, 0), 0);
            x.sheet(2, INTS, 0);
            Due.is("none of none", x.copy(2, 0, 2, 0, 0), 0);
            Due.is("none to none", x.copy(0, 6, 2, 0, 0), 0);
            are(x, 1, 20, 21, 22, 23);
        });
        edge(40, "n numbers of a SHEET", "forty, of each sort", () -> {
            for (int sort = 0; sort < 3; sort++) {
                DoorOfLuck x = town(0, 1, 2, 3);
                x.person(SOUL, 0);
                x.sheet(0, sort, 40);
                for (int i = 0; i < 40; i++) x.cell(0, i, 1);
                x.sheet(1, sort, 40);
                Due.is("forty", x.copy(0, 0, 1, 0, 40), 40);
                Due.is("none is 0", x.walk(1, 0, 2), 0);
                Due.is("forty-one", x.copy(0, 0, 1, 0, 41), OUTSIDE);
            }
        });
    }

    private static void promise40refuses() {
        edge(40, "BAD: SHEETS; -11; -13: unlike sorts; -12", "each, ahead of the next", () -> {
            DoorOfLuck x = numbered();
            row(x, 2, SHORTS, 1);
            refused("the one", BAD, outside(0, 3), s -> x.copy(s, -1, 3, -1, -1));
            refused("the other", BAD, outside(0, 3), s -> x.copy(3, -1, s, -1, -1));
            Due.is("the one is missing", x.copy(3, -1, 0, -1, -1), MISSING);
            Due.is("the other is missing", x.copy(0, -1, 3, -1, -1), MISSING);
            Due.is("both", x.copy(3, 0, 3, 0, 0), MISSING);
            Due.is("missing, ahead of unlike", x.copy(2, -1, 3, -1, -1), MISSING);
            Due.is("unlike", x.copy(0, -1, 2, -1, -1), UNLIKE);
            Due.is("unlike", x.copy(2, -1, 0, -1, -1), UNLIKE);
            Due.is("unlike, none of them", x.copy(2, 0, 0, 0, 0), UNLIKE);
        });
        edge(40, "-13: unlike sorts;", "each two of the three", () -> {
            DoorOfLuck x = new DoorOfLuck();
            for (int sort = 0; sort < 3; sort++) row(x, sort, sort, 1);
            for (int s = 0; s < 3; s++) {
                for (int other = 0; other < 3; other++) Due.is("copy", x.copy(s, 0, other, 0, 1), s == other ? 1 : UNLIKE);
            }
        });
        edge(40, "-12 (n below 0, too).", "i, j, n below 0; past either end; past the last int", () -> {
            DoorOfLuck x = numbered();
            refused("i, one", OUTSIDE, outside(0, 5), i -> x.copy(0, i, 1, 0, 1));
            refused("i, none", OUTSIDE, outside(0, 6), i -> x.copy(0, i, 1, 0, 0));
            refused("j, one", OUTSIDE, outside(0, 3), j -> x.copy(0, 0, 1, j, 1));
            refused("j, none", OUTSIDE, outside(0, 4), j -> x.copy(0, 0, 1, j, 0));
            refused("n", OUTSIDE, outside(0, 4), n -> x.copy(0, 0, 1, 0, n));
            refused("n, from the last place", OUTSIDE, outside(0, 1), n -> x.copy(0, 5, 1, 0, n));
            refused("n, to the last place", OUTSIDE, outside(0, 1), n -> x.copy(0, 0, 1, 3, n));
            Due.is("i and n wrap to 0", x.copy(0, MAX, 1, 0, MAX), OUTSIDE);
            Due.is("i and n wrap to 0", x.copy(0, MIN, 1, 0, MIN), OUTSIDE);
            Due.is("j and n wrap to 1", x.copy(0, 0, 1, 2 - MAX, MAX), OUTSIDE);
            are(x, 0, 10, 11, 12, 13, 14, 15);
            are(x, 1, 20, 21, 22, 23);
        });
    }

    private static void promise41() {
        edge(41, "from a place on, two by two (as of person()), n of them (0 .. 6): how many came", "none, one, six; from the first place, to the last", () -> {
            DoorOfLuck x = new DoorOfLuck();
            row(x, 0, INTS, 0, 0, 11, 111, 22, 222, 33, 333, 44, 444, 55, 555, 59, 799);
            Due.is("none", x.peopleBy(0, INTS, 0, 0), 0);
            Due.is("nobody came", x.count(0), 0);
            x.image();
            Due.is("six", x.peopleBy(0, INTS, 0, 6), 6);
            each("luck", p -> x.told(p, 1), 0, 11, 22, 33, 44, 55);
            x.back();
            Due.is("the last two places", x.peopleBy(0, INTS, 12, 1), 1);
            each("the last one", what -> x.told(0, what), 7, 99, NONE, 5, 9, 0);
            x.back();
            Due.is("from an odd place", x.peopleBy(0, INTS, 1, 1), 1);
            each("0, 11", what -> x.told(0, what), 0, 11, NONE, 0, 0, 0);
        });
        edge(41, "(others are left out)", "each bound of a pair, passed by 1", () -> {
            DoorOfLuck x = new DoorOfLuck();
            row(x, 0, INTS, 60, 0, -1, 0, 0, 800, 0, -1, 59, 799, MIN, MAX);
            Due.is("one of six", x.peopleBy(0, INTS, 0, 6), 1);
            Due.is("the fifth pair", x.told(0, 0) * 1000 + x.told(0, 3) * 100 + x.told(0, 1), 7599);
            Due.is("one", x.count(0), 1);
        });
        edge(41, "(others are left out)", "those for whom there is no room", () -> {
            DoorOfLuck x = new DoorOfLuck();
            row(x, 0, SHORTS, 1, 1, 2, 2, 3, 3, 4, 4, 5, 5, 6, 6);
            Due.is("four", x.peopleBy(0, SHORTS, 0, 4), 4);
            Due.is("two of six", x.peopleBy(0, SHORTS, 0, 6), 2);
            Due.is("six", x.count(0), 6);
            Due.is("none of six", x.peopleBy(0, SHORTS, 0, 6), 0);
            each("luck", p -> x.told(p, 1), 1, 2, 3, 4, 1, 2);
        });
        edge(41, "PEOPLE by a SHEET of a sort", "of bytes, shorts, ints", () -> {
            for (int sort = 0; sort < 3; sort++) {
                DoorOfLuck x = new DoorOfLuck();
                row(x, 3, sort, 59, 99);
                Due.is("one", x.peopleBy(3, sort, 0, 1), 1);
                Due.is("luck", x.told(0, 1), 99);
            }
        });
    }

    private static void promise41refuses() {
        edge(41, "BAD: SHEET, sort, n; -11; -13;", "each below, above, ahead of the next", () -> {
            DoorOfLuck x = new DoorOfLuck();
            row(x, 0, INTS, 1, 1);
            refused("sheet", BAD, outside(0, 3), v -> x.peopleBy(v, SHORTS, -1, 1));
            refused("sort", BAD, outside(0, 2), v -> x.peopleBy(3, v, -1, 1));
            refused("sort -1 of a missing one", BAD, new int[] {-1}, v -> x.peopleBy(3, v, 0, 0));
            refused("n", BAD, outside(0, 6), v -> x.peopleBy(3, INTS, -1, v));
            for (int sort = 0; sort < 3; sort++) Due.is("missing", x.peopleBy(3, sort, -1, 1), MISSING);
            Due.is("another sort", x.peopleBy(0, BYTES, -1, 1), UNLIKE);
            Due.is("another sort", x.peopleBy(0, SHORTS, -1, 1), UNLIKE);
            Due.is("another sort, none", x.peopleBy(0, SHORTS, 0, 0), UNLIKE);
            Due.is("nobody came", x.count(0), 0);
        });
        edge(41, "-12: what stood ahead came.", "the first, the third, the sixth pair is outside, by one place or two", () -> {
            DoorOfLuck x = new DoorOfLuck();
            x.image();
            row(x, 0, INTS, 0, 1, 0, 2, 0, 3, 0, 4, 0, 5, 0);
            Due.is("the sixth, by one place", x.peopleBy(0, INTS, 0, 6), OUTSIDE);
            Due.is("five came", x.count(0), 5);
            x.back();
            Due.is("the third, by two", x.peopleBy(0, INTS, 7, 3), OUTSIDE);
            Due.is("two came", x.count(0), 2);
            x.back();
            Due.is("the first, by one", x.peopleBy(0, INTS, 10, 1), OUTSIDE);
            Due.is("the first, by two", x.peopleBy(0, INTS, 11, 1), OUTSIDE);
            Due.is("nobody came", x.count(0), 0);
            x.sheet(1, INTS, 0);
            Due.is("of none", x.peopleBy(1, INTS, 0, 1), OUTSIDE);
            x.sheet(1, INTS, 1);
            Due.is("of one", x.peopleBy(1, INTS, 0, 1), OUTSIDE);
        });
        edge(41, "-12: what stood ahead came.", "what is left out ahead, and with no room for anybody", () -> {
            DoorOfLuck x = new DoorOfLuck();
            row(x, 0, INTS, 60, 0, 5, 5);
            Due.is("one is left out, one comes", x.peopleBy(0, INTS, 0, 3), OUTSIDE);
            Due.is("one came", x.count(0), 1);
            for (int p = 1; p < 6; p++) x.person(SOUL, 0);
            Due.is("no room, yet outside", x.peopleBy(0, INTS, 0, 3), OUTSIDE);
            Due.is("no room", x.peopleBy(0, INTS, 0, 2), 0);
        });
        edge(41, "-12: what stood ahead came.", "from below 0, from far above, past the last int", () -> {
            DoorOfLuck x = new DoorOfLuck();
            row(x, 0, INTS, 1, 1, 2, 2);
            for (int n = 1; n <= 6; n++) {
                int so = n;
                refused("from", OUTSIDE, outside(0, 2), v -> x.peopleBy(0, INTS, v, so));
            }
            Due.is("nobody came", x.count(0), 0);
            Due.is("none of them, at any place", x.peopleBy(0, INTS, -1, 0), 0);
        });
    }

    private static void promise42() {
        edge(42, "0 .. 5 PEOPLE, 6 .. 17 DOORS", "the first and the last of each", () -> {
            DoorOfLuck x = new DoorOfLuck();
            for (int p = 0; p < 6; p++) x.person(SOUL, 0);
            for (int d = 0; d < 12; d++) x.door(0, 1);
            x.brick(0, 1);
            x.brick(11, 1);
            each("people", p -> x.taken(p, 0), 0, 1, 2, 3, 4, 5);
            each("doors", d -> x.taken(6 + d, 6), 1, 0, 0, 0, 0, 0, 0, 0, 0, 0, 0, 1);
        });
        edge(42, "taken for 0 .. 5 one of that KIND (also of one that is one): the number;", "each kind for each", () -> {
            DoorOfLuck x = new DoorOfLuck();
            int[][] are = {{0}, {0, 1}, {0, 2}, {0, 1, 3}, {0, 2, 4}, {0, 5}};
            for (int p = 0; p < 6; p++) {
                x.person(10 * p, 0);
                int[] due = {UNLIKE, UNLIKE, UNLIKE, UNLIKE, UNLIKE, UNLIKE, UNLIKE};
                for (int kind : are[p]) due[kind] = p;
                for (int kind = 0; kind < 7; kind++) Due.is("kind " + p + " for " + kind, x.taken(p, kind), due[kind]);
            }
        });
        edge(42, "-13.", "a door for each kind of people, people for a door", () -> {
            DoorOfLuck x = new DoorOfLuck();
            for (int d = 0; d < 12; d++) x.door(0, 1);
            for (int p = 0; p < 6; p++) x.person(10 * p, 0);
            for (int kind = 0; kind < 6; kind++) {
                Due.is("door 0", x.taken(6, kind), UNLIKE);
                Due.is("door 11", x.taken(17, kind), UNLIKE);
                Due.is("one of the people", x.taken(kind, 6), UNLIKE);
            }
        });
        edge(42, "BAD: kind; -12: i; -11: none such; -13.", "each, below and above, ahead of the next", () -> {
            DoorOfLuck x = rowOfHouses();
            x.person(SOUL, 0);
            refused("kind, of no place", BAD, outside(0, 6), kind -> x.taken(18, kind));
            refused("kind", BAD, outside(0, 6), kind -> x.taken(0, kind));
            refused("place", OUTSIDE, outside(0, 17), i -> x.taken(i, 0));
            refused("place of a door", OUTSIDE, outside(0, 17), i -> x.taken(i, 6));
            refused("nobody", MISSING, new int[] {1, 2, 3, 4, 5}, i -> x.taken(i, 6));
            refused("nobody", MISSING, new int[] {1, 2, 3, 4, 5}, i -> x.taken(i, 0));
            refused("no door", MISSING, new int[] {9, 10, 16, 17}, i -> x.taken(i, 0));
            refused("no door", MISSING, new int[] {9, 10, 16, 17}, i -> x.taken(i, 6));
            DoorOfLuck none = new DoorOfLuck();
            for (int i = 0; i < 18; i++) Due.is("nothing at " + i, none.taken(i, i < 6 ? 0 : 6), MISSING);
        });
    }
}
