/** Boundary cases of walks, told walks, strolls and images: promises 25 to 37. */
final class EdgesOfWalks extends Edges {
    private static final String TOLD = "All that judge() refuses, likewise";

    private EdgesOfWalks() {
    }

    static void all() {
        promise25();
        promise25refuses();
        promise26();
        promise27();
        promise27refuses();
        promise28();
        promise29();
        promise30();
        promise31();
        promise32();
        promise33();
        promise34();
        promise35();
        promise36();
        promise37();
    }

    /** A SOUL with LUCK 40 in house 0 of the row; sheet 0 tells doors 0, 1; sheet 1 LUCK behind these. */
    private static DoorOfLuck walking() {
        DoorOfLuck x = rowOfHouses();
        x.person(SOUL, 40);
        row(x, 0, INTS, 0, 1);
        row(x, 1, BYTES, 43, 46);
        return x;
    }

    private static int[] forty(int d) {
        int[] cells = new int[40];
        for (int i = 0; i < 40; i++) cells[i] = d;
        return cells;
    }

    private static void promise25() {
        edge(25, "DOORS that a SHEET tells (none, too)", "none: all as it is, and no door in the town either", () -> {
            DoorOfLuck x = new DoorOfLuck();
            x.person(SOUL, 742);
            for (int sort = 0; sort < 3; sort++) {
                x.sheet(sort, sort, 0);
                int s = sort;
                each("a walk of none", what -> x.walk(s, 0, what), 42, 7, 0, NONE);
            }
        });
        edge(25, "DOORS that a SHEET tells", "forty, of bytes, shorts, ints", () -> {
            DoorOfLuck x = town(0, 1);
            x.person(SOUL, 0);
            x.put(0, 2, NONE);
            law(x, "gains 1;dares 1;leaves 0;");
            for (int sort = 0; sort < 3; sort++) {
                row(x, 0, sort, forty(0));
                each("a walk of forty", what -> x.walk(0, 0, what), 40, 0, 40, NONE);
            }
        });
        edge(25, "the how manieth of these, from 1 on, is one's END for the first time (3; -1: none)", "the first, the last, twice, none", () -> {
            DoorOfLuck x = rowOfHouses();
            x.person(SOUL, 40);
            row(x, 0, INTS, 0, 2, 1, 1, 1, 0);
            Due.is("no end", x.walk(0, 0, 3), NONE);
            x.put(0, 2, 0);
            Due.is("the first", x.walk(0, 0, 3), 1);
            x.put(0, 2, 1);
            Due.is("the second, as door 2 isn't opened", x.walk(0, 0, 3), 2);
            x.put(0, 2, 2);
            Due.is("tried, not opened", x.walk(0, 0, 3), NONE);
            row(x, 0, INTS, 0, 1, 2);
            Due.is("the last", x.walk(0, 0, 3), 3);
            x.sheet(0, INTS, 0);
            Due.is("of none", x.walk(0, 0, 3), NONE);
        });
        edge(25, "how many one OPENS (2)", "none, all, one door as often as it is opened", () -> {
            DoorOfLuck x = rowOfHouses();
            x.person(SOUL, 40);
            row(x, 0, INTS, 1, 1, 2);
            Due.is("none", x.walk(0, 0, 2), 0);
            row(x, 0, INTS, 0, 0, 0);
            Due.is("one, three times", x.walk(0, 0, 2), 3);
            x.open(0, 0);
            Due.is("though it is opened already", x.walk(0, 0, 2), 3);
        });
        edge(25, "one behind the other, in thought", "luck to 99 and to 0 on the way; each by what was ahead", () -> {
            DoorOfLuck x = town(0, 1);
            x.person(SOUL, 98);
            row(x, 0, INTS, 0, 0);
            Due.is("99", x.walk(0, 0, 0), 99);
            law(x, "gains 0-98*opened-97;dares 1;leaves 0;");
            Due.is("1, then 0", x.walk(0, 0, 0), 0);
            law(x, "gains 0-luck+house;dares 1;leaves 0;");
            Due.is("0, then 1", x.walk(0, 0, 0), 1);
        });
    }

    /** Refusals of the sheet by which one walks, by each number that a cell may have. */
    private static void refusedDoors(Call asked, DoorOfLuck x, int s) {
        for (int bad : new int[] {-1, 3, 11, 12, MIN, MAX, 65536, 256}) {
            row(x, s, INTS, bad, 0);
            Due.is("first " + bad, asked.with(s), BAD);
            row(x, s, INTS, 0, 0, bad);
            Due.is("last " + bad, asked.with(s), BAD);
        }
        row(x, s, BYTES, 0, 255);
        Due.is("byte 255", asked.with(s), BAD);
        row(x, s, SHORTS, 256);
        Due.is("short 256", asked.with(s), BAD);
        int[] cells = forty(0);
        cells[39] = 3;
        row(x, s, INTS, cells);
        Due.is("the fortieth", asked.with(s), BAD);
        x.sheet(s, -1, 0);
        Due.is("missing", asked.with(s), MISSING);
    }

    private static void promise25refuses() {
        edge(25, "BAD: SHEET;", "below 0, above 3, ahead of all else", () -> {
            DoorOfLuck x = walking();
            refused("walk", BAD, outside(0, 3), s -> x.walk(s, 0, 0));
            Due.is("ahead of -5, -7", x.walk(4, 9, 9), BAD);
        });
        edge(25, "-11; BAD: it tells what is no DOOR; -5", "-11, BAD ahead of -5", () -> {
            DoorOfLuck x = walking();
            refusedDoors(s -> x.walk(s, 9, 9), x, 2);
        });
        edge(25, "BAD: it tells what is no DOOR;", "of twelve, of none; a byte that is cut to 0 is one", () -> {
            DoorOfLuck x = new DoorOfLuck();
            x.person(SOUL, 0);
            row(x, 0, INTS, 0);
            Due.is("of none", x.walk(0, 0, 0), BAD);
            for (int d = 0; d < 12; d++) x.door(0, 1);
            row(x, 0, INTS, 11);
            Due.is("door 11", x.walk(0, 0, 2), 1);
            row(x, 0, INTS, 12);
            Due.is("door 12", x.walk(0, 0, 2), BAD);
            row(x, 0, BYTES, 256);
            Due.is("a byte of 256", x.walk(0, 0, 2), 1);
            row(x, 0, SHORTS, 65536);
            Due.is("a short of 65536", x.walk(0, 0, 2), 1);
        });
        edge(25, "-5: none such; -7: what.", "nobody; what below 0, above 3; -5 ahead", () -> {
            DoorOfLuck x = walking();
            refused("who", WHO, outside(0, 0), p -> x.walk(0, p, 0));
            refused("what", VALUE, outside(0, 3), v -> x.walk(0, 0, v));
            Due.is("nobody ahead", x.walk(0, 1, 4), WHO);
        });
    }

    private static void promise26() {
        edge(26, "It, truly, and DAY is 1 more: LUCK then.", "no doors; forty; by the day as it was", () -> {
            DoorOfLuck x = town(0, 1);
            x.person(SOUL, 40);
            x.sheet(0, BYTES, 0);
            Due.is("no doors", x.goes(0, 0), 40);
            Due.is("day 1", x.count(2), 1);
            law(x, "gains day;dares 1;leaves 0;");
            row(x, 0, SHORTS, forty(0));
            Due.is("forty", x.goes(0, 0), 80);
            Due.is("day 2", x.count(2), 2);
            Due.is("to the bound", x.goes(0, 0), 99);
            Due.is("opened", x.told(0, 5), 1);
        });
        edge(26, "STATE: DAY is 999.", "on 998 one goes, on 999 not, be there no doors to go", () -> {
            DoorOfLuck x = walking();
            x.sheet(2, INTS, 0);
            x.dawn(998);
            Due.is("998", x.goes(0, 0), 46);
            Due.is("it is 999", x.count(2), 999);
            Due.is("999", x.goes(0, 0), STATE);
            Due.is("999, no doors", x.goes(2, 0), STATE);
            Due.is("it stays", x.count(2), 999);
            Due.is("where one is", x.told(0, 0), 2);
            x.dawn(0);
            Due.is("0", x.goes(2, 0), 46);
        });
        edge(26, "BAD, -11, BAD, -5 likewise; STATE", "each ahead of the next, on day 999", () -> {
            DoorOfLuck x = walking();
            x.dawn(999);
            refused("sheet", BAD, outside(0, 3), s -> x.goes(s, 9));
            refusedDoors(s -> x.goes(s, 9), x, 2);
            refused("who", WHO, outside(0, 0), p -> x.goes(0, p));
            Due.is("then STATE", x.goes(0, 0), STATE);
        });
    }

    private static void promise27() {
        edge(27, "the first (from 0) that is otherwise; -1: none.", "0, the last, the first of several, none", () -> {
            DoorOfLuck x = walking();
            Due.is("none", x.judge(0, 1, 0), NONE);
            row(x, 1, BYTES, 43, 45);
            Due.is("the last", x.judge(0, 1, 0), 1);
            row(x, 1, BYTES, 42, 46);
            Due.is("the first", x.judge(0, 1, 0), 0);
            row(x, 1, BYTES, 42, 45);
            Due.is("both", x.judge(0, 1, 0), 0);
            row(x, 0, INTS, forty(0));
            x.film(0, 1, 0);
            Due.is("forty, none", x.judge(0, 1, 0), NONE);
            x.cell(1, 39, 98);
            Due.is("the fortieth", x.judge(0, 1, 0), 39);
        });
        edge(27, "SHEET told LUCK of one behind the first, the second, .. of them", "none told, fewer told, a door that isn't opened, too", () -> {
            DoorOfLuck x = walking();
            x.sheet(1, INTS, 0);
            Due.is("none told", x.judge(0, 1, 0), NONE);
            row(x, 1, SHORTS, 43);
            Due.is("one told", x.judge(0, 1, 0), NONE);
            row(x, 0, INTS, 2, 2, 0);
            row(x, 1, INTS, 40, 40, 43);
            Due.is("two not opened", x.judge(0, 1, 0), NONE);
            x.sheet(0, INTS, 0);
            x.sheet(1, INTS, 0);
            Due.is("none of none", x.judge(0, 1, 0), NONE);
        });
        edge(27, "SHEET told LUCK of one", "no number that is not LUCK fits; of ints none is cut", () -> {
            DoorOfLuck x = walking();
            for (int v : new int[] {-1, 100, 43 + 256, 43 + 65536, -43, MIN, MAX}) {
                row(x, 1, INTS, v);
                Due.is("int " + v, x.judge(0, 1, 0), 0);
            }
            row(x, 1, BYTES, 43 + 256);
            Due.is("byte 299", x.judge(0, 1, 0), NONE);
            row(x, 1, SHORTS, 43 + 256);
            Due.is("short 299", x.judge(0, 1, 0), 0);
            row(x, 1, SHORTS, 43 + 65536);
            Due.is("short 65579", x.judge(0, 1, 0), NONE);
        });
    }

    interface Told {
        int asked(int s, int told, int p);
    }

    /** All that judge() refuses, with the last argument of the call wrong throughout. */
    private static void refusedTold(DoorOfLuck x, Told call, boolean ofOne) {
        row(x, 0, INTS, 0, 1);
        row(x, 1, BYTES, 43, 46);
        x.sheet(3, -1, 0);
        refused("told is no sheet", BAD, outside(0, 3), told -> call.asked(0, told, 9));
        refused("told is no sheet, ahead of s that is missing", BAD, outside(0, 3), told -> call.asked(3, told, 9));
        refused("s is no sheet", BAD, outside(0, 3), s -> call.asked(s, 1, 9));
        refused("s is no sheet, ahead of told that is missing", BAD, outside(0, 3), s -> call.asked(s, 3, 9));
        Due.is("s is missing", call.asked(3, 1, 9), MISSING);
        Due.is("both are missing", call.asked(3, 3, 9), MISSING);
        refusedDoors(s -> call.asked(s, 1, 9), x, 2);
        row(x, 2, INTS, 0, 12);
        Due.is("s tells no door, ahead of told that is missing", call.asked(2, 3, 9), BAD);
        Due.is("told is missing, ahead of -5", call.asked(0, 3, 9), MISSING);
        row(x, 1, BYTES, 43, 46, 46);
        Due.is("told tells one more, ahead of -5", call.asked(0, 1, 9), BAD);
        row(x, 1, BYTES, 43, 46);
        if (!ofOne) return;
        refused("nobody", WHO, outside(0, 0), p -> call.asked(0, 1, p));
    }

    private static void promise27refuses() {
        edge(27, "BAD: SHEET told; BAD: SHEET s; -11: s is missing; BAD: it tells what is no DOOR; -11: told is missing; BAD: it tells more than s; -5: none such.",
                "each, ahead of the next", () -> {
            DoorOfLuck x = walking();
            refusedTold(x, x::judge, true);
        });
        edge(27, "BAD: it tells more than s;", "as many are fine, one more is not; none and one", () -> {
            DoorOfLuck x = walking();
            Due.is("as many", x.judge(0, 1, 0), NONE);
            row(x, 1, BYTES, 43, 46, 46);
            Due.is("one more", x.judge(0, 1, 0), BAD);
            x.sheet(0, INTS, 0);
            row(x, 1, BYTES, 43);
            Due.is("one more than none", x.judge(0, 1, 0), BAD);
            row(x, 0, INTS, forty(0));
            row(x, 1, INTS, forty(0));
            Due.is("forty and forty", x.judge(0, 1, 0), 0);
        });
    }

    private static void promise28() {
        edge(28, "KINDS (sort 0; bits 0 .. 5), MORE (1; bits 0 .. 9) by which, were they one's, that would be -1.", "all, none, the first, the last", () -> {
            DoorOfLuck x = walking();
            x.sheet(1, INTS, 0);
            Due.is("all kinds", x.kinds(0, 1, 0, 0), 63);
            Due.is("all mores", x.kinds(0, 1, 0, 1), 1023);
            row(x, 1, BYTES, 1, 1);
            Due.is("no kind", x.kinds(0, 1, 0, 0), 0);
            Due.is("no more", x.kinds(0, 1, 0, 1), 0);
            x.person(FOOTMAN + 9, 40);
            row(x, 1, BYTES, 43, 46);
            Due.is("more 0", x.kinds(0, 1, 1, 1), 1);
            row(x, 1, BYTES, 52, 64);
            Due.is("more 9", x.kinds(0, 1, 1, 1), 512);
            Due.is("a footman, a butler with more 9", x.kinds(0, 1, 1, 0), 10);
            row(x, 1, BYTES, 40, 40);
            x.dawn(1);
            Due.is("a gypsy", x.kinds(0, 1, 1, 0), 32);
            x.dawn(2);
            x.person(BUTLER + 9, 40);
            Due.is("a butler with more 2, on day 2", x.kinds(0, 1, 2, 1), 4);
        });
        edge(28, "-7: sort.", "below 0, above 1; behind all else", () -> {
            DoorOfLuck x = walking();
            refused("sort", VALUE, outside(0, 1), v -> x.kinds(0, 1, 0, v));
        });
        edge(28, TOLD, "each, ahead of the next", () -> {
            DoorOfLuck x = walking();
            refusedTold(x, (s, told, p) -> x.kinds(s, told, p, 2), true);
        });
    }

    private static void promise29() {
        edge(29, "HOUSES (what 0; bits)", "all, none, the first, the last", () -> {
            DoorOfLuck x = town(0, 7);
            x.person(SOUL, 340);
            row(x, 0, INTS, 0);
            x.sheet(1, INTS, 0);
            Due.is("all", x.states(0, 1, 0, 0), 255);
            row(x, 1, BYTES, 43);
            Due.is("0 and 7", x.states(0, 1, 0, 0), 129);
            row(x, 1, BYTES, 40);
            Due.is("1 .. 6", x.states(0, 1, 0, 0), 126);
            row(x, 1, BYTES, 41);
            Due.is("none", x.states(0, 1, 0, 0), 0);
        });
        edge(29, "END (2; bits for DOORS, bit 12 for none)", "all of twelve, none, the first, the twelfth, bit 12 alone", () -> {
            DoorOfLuck x = new DoorOfLuck();
            for (int d = 0; d < 12; d++) x.door(0, 1);
            x.person(SOUL, 40);
            x.sheet(0, INTS, 0);
            x.sheet(1, INTS, 0);
            Due.is("all, and none", x.states(0, 1, 0, 2), 8191);
            row(x, 0, INTS, 0, 11);
            row(x, 1, BYTES, 0);
            Due.is("the first", x.states(0, 1, 0, 2), 1);
            row(x, 1, BYTES, 43, 0);
            Due.is("the twelfth", x.states(0, 1, 0, 2), 2048);
            row(x, 1, BYTES, 43, 46);
            Due.is("any other, and none", x.states(0, 1, 0, 2), 8191 - 2049);
            row(x, 1, BYTES, 7);
            Due.is("not even none", x.states(0, 1, 0, 2), 0);
            row(x, 0, INTS, 0, 1, 2, 3, 4, 5, 6, 7, 8, 9, 10, 11);
            x.put(0, 2, 4);
            row(x, 1, BYTES, 43, 46, 49, 52, 55, 58, 61, 64, 67, 70, 73, 76);
            Due.is("bit 12 alone", x.states(0, 1, 0, 2), 4096);
        });
        edge(29, "END (2; bits for DOORS, bit 12 for none)", "of a town without doors, of three", () -> {
            DoorOfLuck x = new DoorOfLuck();
            x.person(SOUL, 40);
            x.sheet(0, INTS, 0);
            Due.is("none alone", x.states(0, 0, 0, 2), 4096);
            for (int d = 0; d < 3; d++) x.door(0, 1);
            Due.is("three, and none", x.states(0, 0, 0, 2), 4103);
        });
        edge(29, "-7: what.", "below 0, 1, above 2; behind all else", () -> {
            DoorOfLuck x = walking();
            refused("what", VALUE, outside(0, 2), v -> x.states(0, 1, 0, v));
            Due.is("luck is none of it", x.states(0, 1, 0, 1), VALUE);
        });
        edge(29, TOLD, "each, ahead of the next", () -> {
            DoorOfLuck x = walking();
            refusedTold(x, (s, told, p) -> x.states(s, told, p, 1), true);
        });
    }

    private static void promise30() {
        edge(30, "LUCK (0 .. 99) by which that would be -1: how many (what 0), the least (1; -1: none).", "all, none, 0 alone, 99 alone", () -> {
            DoorOfLuck x = walking();
            x.sheet(1, INTS, 0);
            each("all", what -> x.lucks(0, 1, 0, what), 100, 0);
            row(x, 1, BYTES, 43, 45);
            each("none", what -> x.lucks(0, 1, 0, what), 0, NONE);
            row(x, 1, BYTES, 3);
            each("0 alone", what -> x.lucks(0, 1, 0, what), 1, 0);
            row(x, 1, BYTES, 99);
            each("96 .. 99", what -> x.lucks(0, 1, 0, what), 4, 96);
            row(x, 0, INTS, 2);
            each("99 alone", what -> x.lucks(0, 1, 0, what), 1, 99);
            row(x, 1, BYTES, 100);
            each("not 100", what -> x.lucks(0, 1, 0, what), 0, NONE);
            row(x, 1, BYTES, -1);
            each("nor -1", what -> x.lucks(0, 1, 0, what), 0, NONE);
        });
        edge(30, "-7: what.", "below 0, above 1; behind all else", () -> {
            DoorOfLuck x = walking();
            refused("what", VALUE, outside(0, 1), v -> x.lucks(0, 1, 0, v));
        });
        edge(30, TOLD, "each, ahead of the next", () -> {
            DoorOfLuck x = walking();
            refusedTold(x, (s, told, p) -> x.lucks(s, told, p, 2), true);
        });
    }

    private static void promise31() {
        edge(31, "PEOPLE (bits) of whom that is -1.", "nobody, the first, the sixth, all", () -> {
            DoorOfLuck x = walking();
            for (int p = 1; p < 6; p++) x.person(SOUL, 40 + p);
            Due.is("the first", x.whose(0, 1), 1);
            row(x, 1, BYTES, 48);
            Due.is("the sixth", x.whose(0, 1), 32);
            row(x, 1, BYTES, 50);
            Due.is("nobody", x.whose(0, 1), 0);
            x.sheet(1, INTS, 0);
            Due.is("all", x.whose(0, 1), 63);
            DoorOfLuck none = new DoorOfLuck();
            none.sheet(0, INTS, 0);
            Due.is("of nobody", none.whose(0, 0), 0);
        });
        edge(31, "All that judge() refuses, likewise, but -5.", "each, ahead of the next; nobody is no refusal", () -> {
            DoorOfLuck x = walking();
            refusedTold(x, (s, told, p) -> x.whose(s, told), false);
            DoorOfLuck y = rowOfHouses();
            refusedTold(y, (s, told, p) -> y.whose(s, told), false);
            Due.is("nobody", y.whose(0, 1), 0);
        });
    }

    private static void promise32() {
        edge(32, "TEXTS (bits), were they THE LAW, by which that would be -1.", "text 0 alone, the sixth, all six, none", () -> {
            DoorOfLuck x = walking();
            Due.is("of one", x.laws(0, 1, 0), 1);
            for (int t = 1; t < 6; t++) read(x, "gains 3+" + t + ";dares 1;leaves 0;");
            Due.is("text 0", x.laws(0, 1, 0), 1);
            x.force(3);
            Due.is("whatever the law is", x.laws(0, 1, 0), 1);
            row(x, 1, BYTES, 48, 56);
            Due.is("the sixth", x.laws(0, 1, 0), 32);
            row(x, 1, BYTES, 48, 55);
            Due.is("none", x.laws(0, 1, 0), 0);
            x.sheet(1, INTS, 0);
            Due.is("all", x.laws(0, 1, 0), 63);
            Due.is("the law stays", x.count(4), 3);
        });
        edge(32, "TEXTS (bits)", "a text with a fault is none", () -> {
            DoorOfLuck x = walking();
            read(x, "gains 3;dares 1;leaves 0");
            Due.is("of one", x.laws(0, 1, 0), 1);
        });
        edge(32, TOLD, "each, ahead of the next", () -> {
            DoorOfLuck x = walking();
            refusedTold(x, x::laws, true);
        });
    }

    private static void promise33() {
        edge(33, "SHEET told truly becomes LUCK of one behind each of the DOORS of SHEET s that are TRIED (bytes): how many.", "none, forty, over a longer, a shorter, a missing one", () -> {
            DoorOfLuck x = walking();
            x.sheet(0, INTS, 0);
            Due.is("none, over two", x.film(0, 1, 0), 0);
            Due.is("none is left", x.cell(1, 0, 0), OUTSIDE);
            row(x, 0, INTS, forty(0));
            Due.is("forty, over none", x.film(0, 1, 0), 40);
            Due.is("the fortieth", x.cell(1, 39, 99), 1);
            Due.is("no more", x.cell(1, 40, 99), OUTSIDE);
            Due.is("forty, over a missing one", x.film(0, 3, 0), 40);
            Due.is("as they are", x.judge(0, 3, 0), NONE);
            row(x, 0, INTS, 0);
            Due.is("one, over forty", x.film(0, 3, 0), 1);
            Due.is("one is left", x.cell(3, 1, 0), OUTSIDE);
        });
        edge(33, "(bytes)", "whatever it was", () -> {
            DoorOfLuck x = walking();
            x.sheet(1, INTS, 2);
            x.film(0, 1, 0);
            x.sheet(2, BYTES, 2);
            Due.is("alike", x.copy(1, 0, 2, 0, 2), 2);
            x.sheet(2, INTS, 2);
            Due.is("not alike", x.copy(1, 0, 2, 0, 2), UNLIKE);
        });
        edge(33, "BAD: SHEET told, one and the same; BAD: SHEET s; -11: s is missing; BAD: it tells what is no DOOR; -5: none such.",
                "each, ahead of the next", () -> {
            DoorOfLuck x = walking();
            refused("told", BAD, outside(0, 3), told -> x.film(0, told, 9));
            refused("told, ahead of s that is missing", BAD, outside(0, 3), told -> x.film(3, told, 9));
            each("one and the same", s -> x.film(s, s, 9), BAD, BAD, BAD, BAD);
            refused("s", BAD, outside(0, 3), s -> x.film(s, 1, 9));
            Due.is("s is missing", x.film(3, 1, 9), MISSING);
            refusedDoors(s -> x.film(s, 1, 9), x, 2);
            refused("nobody", WHO, outside(0, 0), p -> x.film(0, 1, p));
            Due.is("told may be missing", x.film(0, 3, 0), 2);
        });
        edge(33, "one and the same;", "one and the same that is missing, that tells no door", () -> {
            DoorOfLuck x = walking();
            Due.is("missing", x.film(3, 3, 0), BAD);
            row(x, 2, INTS, 12);
            Due.is("no door", x.film(2, 2, 0), BAD);
            Due.is("fine but for that", x.film(0, 0, 0), BAD);
            Due.is("it is as it was", x.walk(0, 0, 2), 2);
        });
    }

    private static void promise34() {
        edge(34, "STROLLS by a SEED of n DOORS (0 .. 60): LUCK then (what 0), the HOUSE (1).", "n 0 and 60", () -> {
            DoorOfLuck x = town(0, 1);
            x.person(SOUL, 0);
            law(x, "gains 1;dares 1;leaves 0;");
            each("none", what -> x.drawn(5, 0, 0, what), 0, 0);
            each("one", what -> x.drawn(5, 0, 1, what), 1, 1);
            each("59", what -> x.drawn(5, 0, 59, what), 59, 1);
            each("60", what -> x.drawn(5, 0, 60, what), 60, 0);
        });
        edge(34, "-7: seed, n, what.", "each below and above, behind -5", () -> {
            DoorOfLuck x = walking();
            refused("seed", VALUE, outside(0, 99999), v -> x.drawn(v, 0, 1, 0));
            refused("n", VALUE, outside(0, 60), v -> x.drawn(0, 0, v, 0));
            refused("what", VALUE, outside(0, 1), v -> x.drawn(0, 0, 1, v));
            Due.is("the last seed", x.drawn(99999, 0, 0, 0), 40);
            Due.is("the first seed", x.drawn(0, 0, 0, 0), 40);
        });
        edge(34, "-5: none such; -7", "nobody, ahead of seed, n, what", () -> {
            DoorOfLuck x = walking();
            refused("who", WHO, outside(0, 0), p -> x.drawn(0, p, 1, 0));
            Due.is("seed", x.drawn(-1, 1, 0, 0), WHO);
            Due.is("n", x.drawn(0, 1, 61, 0), WHO);
            Due.is("what", x.drawn(0, 1, 0, 2), WHO);
        });
    }

    private static void promise35() {
        edge(35, "(1 .. 40) seeds, SEED and each 1 more (they may pass 99999)", "one, forty, from the last seed on", () -> {
            DoorOfLuck x = town(0, 1, 0, 1, 0, 1, 2, 3);
            x.person(SOUL, 0);
            law(x, "gains door-1;dares 1;leaves 0;");
            for (int seed : new int[] {0, 99960, 99961, 99999}) {
                for (int seeds : new int[] {1, 2, 39, 40}) oddsAre(x, seed, seeds);
            }
        });
        edge(35, "of 20 DOORS", "twenty, no more", () -> {
            DoorOfLuck x = town(0, 1);
            x.person(SOUL, 0);
            law(x, "gains 1;dares 1;leaves 0;");
            Due.is("20", x.odds(3, 1, 0, 20, 0), 1);
            Due.is("21", x.odds(3, 1, 0, 21, 0), 0);
        });
        edge(35, "LUCK is least (0 .. 99) or more then", "least 0 and 99, what is just so much", () -> {
            DoorOfLuck x = town(0, 1);
            x.person(SOUL, 39);
            Due.is("0", x.odds(0, 40, 0, 0, 0), 1);
            Due.is("99, which it is", x.odds(0, 40, 0, 99, 0), 1);
            x.put(0, 1, 38);
            Due.is("99, which it is not", x.odds(0, 40, 0, 99, 0), 0);
            Due.is("98", x.odds(0, 40, 0, 98, 0), 1);
        });
        edge(35, "part 0 above, 1 below the line, in lowest terms", "0 of 40 is 0 of 1, 40 of 40 is 1 of 1", () -> {
            DoorOfLuck x = new DoorOfLuck();
            x.person(SOUL, 40);
            each("0 of 40", part -> x.odds(0, 40, 0, 41, part), 0, 1);
            each("40 of 40", part -> x.odds(0, 40, 0, 40, part), 1, 1);
            each("0 of 1", part -> x.odds(0, 1, 0, 41, part), 0, 1);
        });
        edge(35, "NO: none such.", "seed, seeds, who, least, part, each below and above", () -> {
            DoorOfLuck x = walking();
            refused("seed", NO, outside(0, 99999), v -> x.odds(v, 1, 0, 0, 0));
            refused("seeds", NO, outside(1, 40), v -> x.odds(0, v, 0, 0, 0));
            refused("who", NO, outside(0, 0), v -> x.odds(0, 1, v, 0, 0));
            refused("least", NO, outside(0, 99), v -> x.odds(0, 1, 0, v, 0));
            refused("part", NO, outside(0, 1), v -> x.odds(0, 1, 0, 0, v));
            Due.is("nobody at all", new DoorOfLuck().odds(0, 1, 0, 0, 0), NO);
        });
    }

    /** Held against lots that are drawn here. */
    private static void oddsAre(DoorOfLuck x, int seed, int seeds) {
        int many = 0;
        for (int i = 0; i < seeds; i++) {
            long lot = seed + i + 1;
            int luck = 0;
            for (int n = 0; n < 20; n++) {
                lot = lot * 48271 % 2147483647;
                if (lot % 4 != 3) luck = Math.max(0, luck + (int) (lot % 4) - 1);
            }
            if (luck >= 2) many++;
        }
        int by = 1;
        for (int f = 2; f <= 40; f++) if (many % f == 0 && seeds % f == 0) by = f;
        Due.is("odds by " + seed + ", " + seeds, x.odds(seed, seeds, 0, 2, 0), many / by);
        Due.is("odds by " + seed + ", " + seeds + ", below", x.odds(seed, seeds, 0, 2, 1), seeds / by);
    }

    private static void promise36() {
        edge(36, "AN IMAGE is kept: how many PEOPLE.", "nobody, six, the newest one", () -> {
            DoorOfLuck x = new DoorOfLuck();
            Due.is("nobody", x.image(), 0);
            for (int p = 0; p < 6; p++) x.person(SOUL, p);
            Due.is("six", x.image(), 6);
            for (int p = 0; p < 6; p++) x.put(p, 1, 50);
            Due.is("back to six", x.back(), 6);
            each("luck", p -> x.told(p, 1), 0, 1, 2, 3, 4, 5);
            x.put(5, 1, 60);
            Due.is("again", x.image(), 6);
            x.put(5, 1, 70);
            x.back();
            Due.is("the newest", x.told(5, 1), 60);
        });
    }

    private static void promise37() {
        edge(37, "STATE: there is none.", "of a new object, of one with all else", () -> {
            Due.is("a new one", new DoorOfLuck().back(), STATE);
            Due.is("walking", walking().back(), STATE);
        });
        edge(37, "All that it keeps is as in THE IMAGE", "an image of nothing; twice; all but texts, the tape, sheets", () -> {
            DoorOfLuck x = new DoorOfLuck();
            x.image();
            for (int again = 0; again < 2; again++) {
                x.door(0, 1);
                x.person(SOUL, 40);
                x.dawn(9);
                Due.is("text", read(x, "gains 1;dares 1;leaves 0;"), again + 1);
                x.force(again + 1);
                feedAll(x, "abc");
                x.sheet(0, INTS, 3);
                Due.is("back", x.back(), 0);
                each("count", x::count, 0, 0, 0, again + 2, 0, 3);
                Due.is("the sheet stays", x.cell(0, 2, 5), 1);
                Due.is("a fault", x.text(), -100);
            }
        });
        edge(37, "PEOPLE, DOORS that came since are none: how many PEOPLE there are.", "the sixth, the twelfth; there is room again", () -> {
            DoorOfLuck x = new DoorOfLuck();
            for (int d = 0; d < 11; d++) x.door(0, 1);
            for (int p = 0; p < 5; p++) x.person(SOUL, p);
            x.image();
            for (int again = 0; again < 2; again++) {
                Due.is("the twelfth", x.door(6, 7), 11);
                Due.is("the sixth", x.person(GYPSY, 777), 5);
                Due.is("no more", x.door(6, 7), FULL);
                Due.is("no more", x.person(SOUL, 0), FULL);
                x.put(5, 2, 11);
                x.put(0, 2, 11);
                x.brick(11, 1);
                Due.is("back", x.back(), 5);
                Due.is("no twelfth", x.hung(11, 0), WHO);
                Due.is("no sixth", x.told(5, 0), WHO);
                Due.is("the first one's end is none", x.told(0, 2), NONE);
            }
            x.door(6, 7);
            x.person(SOUL, 0);
            Due.is("not bricked", x.hung(11, 2), 0);
            Due.is("nobody's", x.hung(11, 3), 0);
        });
        edge(TERMS, "AN IMAGE keeps DOORS, what is BRICKED, the HOUSE, LUCK, END, OPENED of all, how many PEOPLE there are, DAY, THE LAW.",
                "of the first and the last of all", () -> {
            DoorOfLuck x = new DoorOfLuck();
            for (int d = 0; d < 12; d++) x.door(0, 1);
            for (int p = 0; p < 6; p++) x.person(10 * p + 9 - p, 10 * p);
            x.brick(0, 1);
            x.brick(11, 1);
            x.put(0, 2, 11);
            x.put(5, 2, 0);
            x.open(1, 1);
            x.open(5, 10);
            x.dawn(999);
            for (int t = 1; t < 6; t++) read(x, "gains 3;dares 1;leaves 0;");
            x.force(5);
            x.image();
            x.force(1);
            x.brick(0, 0);
            x.brick(11, 0);
            for (int p = 0; p < 6; p++) {
                x.put(p, 0, 0);
                x.open(p, 5);
                x.put(p, 0, 4);
                x.put(p, 1, 98);
                x.put(p, 2, 3);
            }
            x.dawn(0);
            x.back();
            int[][] due = {{0, 0, 11, 0, 9, 0}, {1, 21, NONE, 1, 8, 2}, {0, 20, NONE, 2, 7, 0}, {0, 30, NONE, 3, 6, 0},
                {0, 40, NONE, 4, 5, 0}, {1, 50, 0, 5, 4, 1024}};
            for (int p = 0; p < 6; p++) {
                for (int what = 0; what < 6; what++) Due.is("told(" + p + ", " + what + ")", x.told(p, what), due[p][what]);
            }
            for (int d = 0; d < 12; d++) Due.is("brick of " + d, x.hung(d, 2), d == 0 || d == 11 ? 1 : 0);
            Due.is("the day", x.count(2), 999);
            Due.is("the law", x.count(4), 5);
        });
    }
}
