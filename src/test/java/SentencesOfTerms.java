import java.util.List;

/** Sentences of the document's head and of 'Terms' that name no boundary case: what they say of ordinary inputs. */
final class SentencesOfTerms extends Edges {
    private static final int[] ALL = {SOUL, FOOTMAN, LADY, BUTLER, WIDOW, GYPSY};

    private SentencesOfTerms() {
    }

    static void all() {
        theTown();
        theStory();
        theStoryOfWalks();
        kinds();
        kindsOfKinds();
        texts();
        opening();
        ways();
        strolls();
        refusals();
        ladders();
    }

    // ---- the head

    /**
     * Houses 0 - 1 - 2 - 3 and back to 0. A SOUL and a LADY in house 0; the SOUL's END is door 1, the LADY's door 0.
     * The SOUL has LUCK 40, the LADY 50.
     */
    private static DoorOfLuck story() {
        DoorOfLuck x = town(0, 1, 1, 2, 2, 3, 3, 0);
        x.person(SOUL, 40);
        x.person(LADY + 3, 50);
        x.put(0, 2, 1);
        x.put(1, 2, 0);
        return x;
    }

    private static void theTown() {
        edge(TERMS, "There is one door that each may not open: a town of eight houses with up to twelve doors between them, "
                + "up to six people of kinds, each in a house, with so much luck,", "all of it at once", () -> {
            DoorOfLuck x = new DoorOfLuck();
            for (int d = 0; d < 12; d++) x.door(d % 8, (d + 1 + d / 8) % 8);
            for (int p = 0; p < 6; p++) x.person(ALL[p] + p, 100 * p + 10 + p);
            each("counts", x::count, 6, 12);
            each("houses", p -> x.told(p, 0), 0, 1, 2, 3, 4, 5);
            each("lucks", p -> x.told(p, 1), 10, 11, 12, 13, 14, 15);
            each("kinds", p -> x.told(p, 3), 0, 1, 2, 3, 4, 5);
            each("mores", p -> x.told(p, 4), 0, 1, 2, 3, 4, 5);
            each("one side", d -> x.hung(d, 0), 0, 1, 2, 3, 4, 5, 6, 7, 0, 1, 2, 3);
            each("the other", d -> x.hung(d, 1), 1, 2, 3, 4, 5, 6, 7, 0, 2, 3, 4, 5);
        });
        edge(TERMS, "what later calls answer is free.", "none throws, each ends", () -> {
            DoorOfLuck x = lived();
            for (int n = 0; n < 2000; n++) {
                x.person(n % 60, n % 800);
                x.door(n % 8, 7);
                x.mason(0);
                x.image();
                x.back();
            }
        });
        edge(TERMS, "each between two HOUSES", "of each house to each other, through it and back", () -> {
            for (int one = 0; one < 8; one++) {
                for (int other = 0; other < 8; other++) {
                    if (one == other) continue;
                    DoorOfLuck x = town(one, other);
                    x.person(SOUL, 100 * one);
                    for (int house = 0; house < 8; house++) {
                        if (house == one || house == other) continue;
                        x.put(0, 0, house);
                        Due.is("from " + house, x.open(0, 0), STATE);
                    }
                    x.put(0, 0, one);
                    x.open(0, 0);
                    Due.is("through it, from " + one, x.told(0, 0), other);
                    x.open(0, 0);
                    Due.is("and back, from " + other, x.told(0, 0), one);
                }
            }
        });
    }

    private static void theStory() {
        edge(TERMS, "and a door that is the end of it, if one opens it with one's own hand; others may open it for one;",
                "by one's own hand, then behind another one", () -> {
            DoorOfLuck x = story();
            x.put(0, 0, 1);
            Due.is("with one's own hand", x.open(0, 1), 0);
            DoorOfLuck y = story();
            y.put(0, 0, 1);
            y.put(1, 0, 1);
            Due.is("the lady opens it for one", y.after(1, 0, 1), 51);
            Due.is("with all one's luck", y.told(0, 1), 40);
            Due.is("one is through", y.told(0, 0), 2);
        });
        edge(TERMS, "by a text how much luck one has by any other door, whether one dares to open it, how much is left behind one's own;",
                "a law for all three", () -> {
            DoorOfLuck x = story();
            law(x, "gains 10+door;dares door<2;leaves 7;");
            Due.is("by door 0", x.open(0, 0), 50);
            Due.is("by one's own", x.open(0, 1), 7);
            Due.is("not dared", x.open(0, 2), STATE);
        });
        edge(TERMS, "who can come where alone, by which doors, how some come somewhere together, with whom one comes furthest;",
                "a soul and a lady, to house 2", () -> {
            DoorOfLuck x = story();
            x.brick(3, 1);
            Due.is("the soul's houses", x.told(0, 7), 3);
            Due.is("the lady's", x.told(1, 7), 1);
            Due.is("the soul to 1, by door 0", x.way(0, 1, 1), 1);
            Due.is("not to 2", x.way(0, 2, 1), NONE);
            Due.is("both to 2", x.together(3, 2), 2);
            Due.is("the soul with the lady", x.friend(0, 0), 1);
            Due.is("to all four", x.friend(0, 1), 4);
        });
        edge(TERMS, "which door to brick up, which few to watch so that one is safe, which door is the end of most, who is in danger;",
                "the same town, all doors as they came", () -> {
            DoorOfLuck x = story();
            Due.is("who is in danger", x.doomed(), 1);
            Due.is("there are two ways: one's own", x.watch(0, 0), 2);
            Due.is("the end of most", x.worst(0), 0);
            x.brick(3, 1);
            Due.is("one way alone: its door", x.watch(0, 0), 1);
            Due.is("the door to open again", x.mason(0), 3);
            Due.is("then all come everywhere", x.mason(1), 8);
        });
        edge(TERMS, "what was opened, and what may be one's door by that;", "with luck, and without any", () -> {
            DoorOfLuck x = story();
            x.open(0, 0);
            Due.is("opened", x.told(0, 5), 1);
            Due.is("it can't be that one", x.told(0, 6), 14);
            x.open(0, 1);
            Due.is("opened", x.told(0, 5), 3);
            Due.is("it is one of these", x.told(0, 6), 3);
        });
    }

    private static void theStoryOfWalks() {
        edge(TERMS, "told walks: the door that is otherwise, of which kind one is, where one began, which door was one's own, "
                + "how much luck one had, whose they are, by which text;", "a soul's walk, filmed", () -> {
            DoorOfLuck x = story();
            read(x, "gains 4;dares 1;leaves 0;");
            row(x, 0, INTS, 0, 2, 1);
            Due.is("43, 43, 0", x.film(0, 1, 0), 3);
            Due.is("nothing is otherwise", x.judge(0, 1, 0), NONE);
            Due.is("to the lady it is the first", x.judge(0, 1, 1), 0);
            Due.is("a soul, or a footman of more 0", x.kinds(0, 1, 0, 0), 3);
            Due.is("of any more", x.kinds(0, 1, 0, 1), 1023);
            Due.is("who began in 0", x.states(0, 1, 0, 0), 1);
            Due.is("whose own is door 1", x.states(0, 1, 0, 2), 2);
            Due.is("with 40", x.lucks(0, 1, 0, 1), 40);
            Due.is("the soul's", x.whose(0, 1), 1);
            Due.is("by text 0", x.laws(0, 1, 0), 1);
        });
        edge(TERMS, "strolls by lots; images.", "a stroll, what it is likely to be, and back", () -> {
            DoorOfLuck x = town(0, 1);
            x.person(SOUL, 40);
            x.image();
            Due.is("five times through the one door", x.drawn(5, 0, 5, 0), 55);
            Due.is("twenty are enough for 99, by each of four seeds", x.odds(5, 4, 0, 99, 0), 1);
            x.open(0, 0);
            Due.is("back", x.back(), 1);
            Due.is("with luck as it was", x.told(0, 1), 40);
        });
    }

    // ---- 1

    /** LUCK behind a door for each kind with MORE 4, the text saying so. */
    private static void behind(String what, String text, int luck, int end, long... due) {
        for (int k = 0; k < due.length; k++) {
            DoorOfLuck x = town(0, 1);
            law(x, text);
            x.person(ALL[k] + 4, luck);
            x.put(0, 2, end);
            Due.is(what + ", kind " + k, x.open(0, 0), due[k]);
        }
    }

    private static void kinds() {
        edge(TERMS, "KINDS: how much LUCK one GAINS by a DOOR, the text saying so much;", "each kind, by 9 and by -9", () -> {
            behind("40 and 9", "gains 9;dares 1;leaves 0;", 40, NONE, 49, 53, 44, 53, 52, 40);
            behind("60 and 9", "gains 9;dares 1;leaves 0;", 60, NONE, 69, 73, 64, 73, 64, 60);
            behind("40 less 9", "gains -9;dares 1;leaves 0;", 40, NONE, 31, 35, 36, 35, 36, 40);
            behind("60 less 9", "gains -9;dares 1;leaves 0;", 60, NONE, 51, 55, 56, 55, 56, 60);
        });
        edge(TERMS, "whether one DARES, the text saying so;", "each kind, by a text that says so of some", () -> {
            behind("so", "gains 0;dares luck<50;leaves 0;", 40, NONE, 40, 44, 40, 44, 44, 40);
            behind("not so", "gains 0;dares luck<50;leaves 0;", 60, NONE, STATE, 64, STATE, 64, STATE, 60);
        });
        edge(TERMS, "what it LEAVES, the text saying so much.", "each kind, by 5 and by 30", () -> {
            behind("5", "gains 1;dares 1;leaves 5;", 41, 0, 5, 5, STATE, 25, STATE, STATE);
            behind("30", "gains 1;dares 1;leaves 30;", 41, 0, 30, 30, STATE, 50, STATE, STATE);
        });
    }

    /** Both by the same doors, texts and days: what is answered of the one is what is answered of the other. */
    private static void alike(int one, int other, String text, int end, int luck) {
        for (int day = 0; day < 3; day++) {
            DoorOfLuck x = town(0, 1, 1, 2, 2, 0);
            law(x, text);
            x.dawn(day);
            x.person(one, luck);
            x.person(other, luck);
            x.put(0, 2, end);
            x.put(1, 2, end);
            String called = text + " on day " + day;
            for (int d = 0; d < 3; d++) Due.is("safe, " + called, x.safe(0, d), x.safe(1, d));
            for (int d = 0; d < 3; d++) {
                Due.is("open " + d + ", " + called, x.open(0, d), x.open(1, d));
                Due.is("then the house, " + called, x.told(0, 0), x.told(1, 0));
            }
            Due.is("watch, " + called, x.watch(0, 0), x.watch(1, 0));
        }
    }

    private static void kindsOfKinds() {
        edge(TERMS, "1 FOOTMAN (a SOUL):", "who LEAVES as a SOUL, and is taken for one", () -> {
            alike(FOOTMAN, SOUL, "gains 3;dares 1;leaves 21;", 0, 60);
            alike(FOOTMAN, SOUL, "gains luck;dares 1;leaves luck-1;", 1, 60);
            behind("a footman's more is of no account", "gains 3;dares 1;leaves 21;", 60, 0, 21, 21);
            DoorOfLuck x = new DoorOfLuck();
            x.person(FOOTMAN, 0);
            each("taken for", kind -> x.taken(0, kind), 0, 0, UNLIKE, UNLIKE, UNLIKE, UNLIKE);
        });
        edge(TERMS, "2 LADY (a SOUL): DARES as a SOUL,", "by a text that says so of some doors, and she is taken for one", () -> {
            alike(LADY + 9, SOUL + 9, "gains 0;dares door<2;leaves 0;", NONE, 60);
            alike(LADY + 9, SOUL + 9, "gains 0;dares house=1;leaves 0;", NONE, 60);
            DoorOfLuck x = new DoorOfLuck();
            x.person(LADY, 0);
            each("taken for", kind -> x.taken(0, kind), 0, UNLIKE, 0, UNLIKE, UNLIKE, UNLIKE);
        });
        edge(TERMS, "3 BUTLER (a FOOTMAN):", "who GAINS as a FOOTMAN, and is taken for one", () -> {
            alike(BUTLER + 9, FOOTMAN + 9, "gains 3;dares 1;leaves 0;", NONE, 60);
            alike(BUTLER + 9, FOOTMAN + 9, "gains 0-luck;dares 1;leaves 0;", NONE, 60);
            DoorOfLuck x = new DoorOfLuck();
            x.person(BUTLER, 0);
            each("taken for", kind -> x.taken(0, kind), 0, 0, UNLIKE, 0, UNLIKE, UNLIKE);
        });
        edge(TERMS, "DARES as a FOOTMAN, but not if DAY", "on any other day always, one's end, too", () -> {
            alike(BUTLER + 6, FOOTMAN + 6, "gains 3;dares 0;leaves 0;", NONE, 60);
            alike(BUTLER + 6, FOOTMAN + 6, "gains 3;dares 0;leaves 99;", 1, 60);
            DoorOfLuck x = town(0, 1);
            law(x, "gains 3;dares 0;leaves 50;");
            x.person(BUTLER + 6, 40);
            x.put(0, 2, 0);
            x.dawn(13);
            Due.is("on day 13 not", x.open(0, 0), STATE);
            x.dawn(14);
            Due.is("on day 14, one's end", x.open(0, 0), 70);
        });
        edge(TERMS, "4 WIDOW (a LADY):", "who DARES as a LADY, and is taken for one", () -> {
            alike(WIDOW + 9, LADY + 9, "gains 7;dares 1;leaves 0;", NONE, 60);
            alike(WIDOW + 9, LADY + 9, "gains 7;dares door<2;leaves 0;", 0, 60);
            alike(WIDOW + 9, LADY + 9, "gains 0-7;dares 1;leaves 50;", 1, 99);
            DoorOfLuck x = new DoorOfLuck();
            x.person(WIDOW, 0);
            each("taken for", kind -> x.taken(0, kind), 0, UNLIKE, 0, UNLIKE, 0, UNLIKE);
        });
        edge(TERMS, "5 GYPSY (a SOUL):", "who is taken for one", () -> {
            alike(GYPSY + 9, SOUL + 9, "gains 0;dares 1;leaves 0;", NONE, 60);
            DoorOfLuck x = new DoorOfLuck();
            x.person(GYPSY, 0);
            each("taken for", kind -> x.taken(0, kind), 0, UNLIKE, UNLIKE, UNLIKE, UNLIKE, 0);
        });
        edge(TERMS, "(Whatever isn't told is as of the KIND above.", "a butler LEAVES on his footman's, a widow's half is a lady's", () -> {
            behind("MORE is of no account by one's end", "gains 9;dares 1;leaves 0;", 40, 0, 0, 0, STATE, 20);
            behind("a widow's 3, twice, and 4", "gains 7;dares 1;leaves 0;", 40, NONE, 47, 51, 43, 51, 50, 40);
        });
    }

    /** What a text says by its gains: of a SOUL in HOUSE 2 with MORE 6, LUCK 40, DAY 9, who OPENED door 0; of door 1. */
    private static long said(String e) {
        DoorOfLuck x = town(0, 2, 2, 1);
        x.person(SOUL + 6, 0);
        x.open(0, 0);
        x.put(0, 1, 40);
        x.dawn(9);
        int t = read(x, "gains " + e + ";dares 1;leaves 0;");
        if (t < 0) return t;
        x.force(t);
        return x.asks(0, 0, 1);
    }

    private static void texts() {
        edge(TERMS, "A TEXT is read from THE TAPE", "what is fed, and no more: another one begins anew", () -> {
            DoorOfLuck x = town(0, 1);
            x.person(SOUL, 0);
            Due.is("the first", read(x, "gains 11;dares 1;leaves 12;"), 1);
            Due.is("the second", read(x, "gains 21;dares 0;leaves 22;"), 2);
            x.force(1);
            each("text 1", part -> x.asks(part, 0, 0), 11, 1, 12);
            x.force(2);
            each("text 2", part -> x.asks(part, 0, 0), 21, 0, 22);
        });
        edge(TERMS, "NAMES: luck door house day opened more.", "each by itself; no KEY is one, nor any other WORD", () -> {
            String[] names = {"luck", "door", "house", "day", "opened", "more"};
            int[] due = {40, 1, 2, 9, 1, 6};
            for (int i = 0; i < 6; i++) Due.is(names[i], said(names[i]), due[i]);
            String[] none = {"gains", "dares", "leaves", "or", "and", "end", "bricked", "kind", "seed", "a", "lucky", "doors"};
            for (String word : none) Due.is(word, said(word), -106);
        });
        edge(TERMS, "FAULT: the place of the first byte of the first TOKEN that can't stand there", "behind blanks; not one behind it", () -> {
            Due.is("a second one", said("1  2 @ 12345"), -109);
            Due.is("a word that is a KEY", said("1 dares ) ("), -108);
            Due.is("a sign", said("1 +  * 2 lucks"), -111);
        });
        edge(TERMS, "of one of PEOPLE and a DOOR:", "each of six, each of twelve", () -> {
            DoorOfLuck x = new DoorOfLuck();
            for (int d = 0; d < 12; d++) x.door(d % 8, (d + 1) % 8);
            for (int p = 0; p < 6; p++) x.person(p, 100 * p + 90 - p);
            law(x, "gains 12*house+door;dares more*2<door;leaves luck;");
            for (int p = 0; p < 6; p++) {
                for (int d = 0; d < 12; d++) {
                    Due.is("gains", x.asks(0, p, d), 12 * p + d);
                    Due.is("dares", x.asks(1, p, d), 2 * p < d ? 1 : 0);
                    Due.is("leaves", x.asks(2, p, d), 90 - p);
                }
            }
        });
    }

    // ---- 2

    private static void opening() {
        edge(TERMS, "is it one's END, LUCK is what it LEAVES", "one's own, not another one's; as often as one opens it", () -> {
            DoorOfLuck x = town(0, 1, 0, 1);
            law(x, "gains 3;dares 1;leaves 10;");
            x.person(SOUL, 40);
            x.person(SOUL, 40);
            x.put(0, 2, 0);
            x.put(1, 2, 1);
            Due.is("one's own", x.open(0, 0), 10);
            Due.is("another one's", x.open(1, 0), 43);
            Due.is("one's own again", x.open(0, 0), 10);
            Due.is("the other door", x.open(0, 1), 13);
            x.put(0, 2, NONE);
            Due.is("as it is nobody's any more", x.open(0, 0), 16);
        });
        edge(TERMS, "then one is in the HOUSE on its other side.", "by a way of doors, told first or last", () -> {
            DoorOfLuck x = town(0, 5, 2, 5, 2, 7, 1, 7);
            x.person(SOUL, 0);
            int[] due = {5, 2, 7, 1};
            for (int d = 0; d < 4; d++) {
                x.open(0, d);
                Due.is("behind door " + d, x.told(0, 0), due[d]);
            }
            int[] back = {0, 5, 2, 7};
            for (int d = 3; d >= 0; d--) {
                x.open(0, d);
                Due.is("back behind door " + d, x.told(0, 0), back[d]);
            }
        });
        edge(TERMS, "TRIED: one OPENS it, if it is of the HOUSE one is in, and one DARES;", "both, either, neither", () -> {
            DoorOfLuck x = town(0, 1, 0, 1, 2, 3, 2, 3);
            law(x, "gains 3;dares door=0 or door=2;leaves 0;");
            x.person(SOUL, 40);
            for (int d = 0; d < 4; d++) {
                row(x, 0, INTS, d);
                Due.is("luck behind " + d, x.walk(0, 0, 0), d == 0 ? 43 : 40);
                Due.is("the house behind " + d, x.walk(0, 0, 1), d == 0 ? 1 : 0);
                Due.is("how many of " + d, x.walk(0, 0, 2), d == 0 ? 1 : 0);
            }
        });
        edge(TERMS, "SAFE for one: a DOOR one DARES", "and that isn't one's end: both, either, neither", () -> {
            DoorOfLuck x = town(0, 1, 0, 1);
            law(x, "gains 3;dares door=0;leaves 0;");
            x.person(SOUL, 40);
            each("no end", d -> x.safe(0, d), 1, 0);
            x.put(0, 2, 0);
            each("the one that one dares", d -> x.safe(0, d), 0, 0);
            x.put(0, 2, 1);
            each("the one that one doesn't", d -> x.safe(0, d), 1, 0);
        });
    }

    private static void ways() {
        edge(TERMS, "A WAY of some to a HOUSE: from HOUSE to HOUSE by DOORS each of which is SAFE", "none that isn't SAFE; by either side", () -> {
            DoorOfLuck x = town(1, 0, 1, 2, 3, 2);
            x.person(SOUL, 0);
            each("to", h -> x.way(0, h, 0), 0, 1, 2, 3, NONE, NONE, NONE, NONE);
            x.put(0, 2, 1);
            each("not by one's end, to", h -> x.way(0, h, 0), 0, 1, NONE, NONE);
            x.put(0, 2, 2);
            each("not by that one either, to", h -> x.way(0, h, 0), 0, 1, 2, NONE);
            x.put(0, 2, NONE);
            x.brick(0, 1);
            each("not by a bricked one, to", h -> x.way(0, h, 0), 0, NONE, NONE, NONE);
        });
        edge(TERMS, "One is IN DANGER, but for some DOORS: from HOUSE to HOUSE by other DOORS one DARES (told as all is now), "
                + "one's END, too, one may come to a HOUSE with one's END,", "some are watched: as if they were bricked", () -> {
            DoorOfLuck x = town(0, 1, 1, 2, 0, 2, 2, 3, 3, 4);
            x.person(SOUL, 0);
            x.put(0, 2, 4);
            Due.is("but for none", x.doomed(), 1);
            each("either way is one too few: door 3", what -> x.watch(0, what), 8, 1);
            x.brick(2, 1);
            each("of one way the first", what -> x.watch(0, what), 1, 1);
            x.brick(1, 1);
            Due.is("one doesn't come there", x.doomed(), 0);
        });
    }

    /** LUCK and the HOUSE behind lots that are reckoned here, door by door. */
    private static void strolled(DoorOfLuck x, int doors, int seed, int n) {
        int[] tried = new int[n];
        long lot = seed + 1;
        for (int i = 0; i < n; i++) {
            lot = lot * 48271 % 2147483647;
            tried[i] = (int) (lot % doors);
        }
        row(x, 0, INTS, tried);
        for (int what = 0; what < 2; what++) {
            Due.is("seed " + seed + ", " + n + " of " + doors, x.drawn(seed, 0, n, what), x.walk(0, 0, what));
        }
    }

    private static void strolls() {
        edge(TERMS, "of one, of so many DOORS, in thought: DOOR LOT modulo how many there are is TRIED each time", "a walk of the same doors", () -> {
            for (int doors = 1; doors <= 12; doors++) {
                DoorOfLuck x = new DoorOfLuck();
                for (int d = 0; d < doors; d++) x.door(d % 3, 3 + d % 2);
                law(x, "gains door+1;dares 1;leaves 50;");
                x.person(SOUL, 0);
                x.put(0, 2, doors / 2);
                for (int n = 0; n <= 40; n += 8) strolled(x, doors, 100 * doors + n, n);
                Due.is("in thought", x.told(0, 1) + x.told(0, 0) + x.told(0, 5), 0);
            }
        });
        edge(TERMS, "LOTS: the first is", "two of them", () -> {
            // 6 * 48271 = 289626, then 289626 * 48271 = 13980536646, less 6 times 2147483647: 1095634764.
            DoorOfLuck x = town(0, 1, 0, 2, 0, 3, 0, 4, 0, 5, 0, 6, 0, 7);
            x.person(SOUL, 0);
            // 289626 modulo 7 is 1, 1095634764 modulo 7 is 0: door 1 to house 2, door 0 is not of it.
            Due.is("one", x.drawn(5, 0, 1, 1), 2);
            Due.is("two", x.drawn(5, 0, 2, 1), 2);
        });
    }

    // ---- refusals

    private static void refusals() {
        edge(TERMS, "NONE there is no such thing; BAD a number is not as told; STATE as told; FULL.", "each by a call or two", () -> {
            DoorOfLuck x = rowOfHouses();
            x.person(SOUL, 0);
            Due.is("no such way", x.way(0, 7, 0), DoorOfLuck.NONE);
            Due.is("no such friend", x.friend(0, 0), DoorOfLuck.NONE);
            Due.is("no such number", x.count(6), DoorOfLuck.BAD);
            Due.is("no such sheet", x.sheet(4, INTS, 0), DoorOfLuck.BAD);
            Due.is("not of that house", x.open(0, 2), DoorOfLuck.STATE);
            Due.is("no image", x.back(), DoorOfLuck.STATE);
            for (int p = 1; p < 6; p++) x.person(SOUL, 0);
            Due.is("six people", x.person(SOUL, 0), DoorOfLuck.FULL);
        });
        edge(TERMS, "The host's: -11 nothing there, -12 a place outside, -13 of another sort or KIND, -14 a size below 0.", "each by a call or two", () -> {
            DoorOfLuck x = rowOfHouses();
            x.person(LADY, 0);
            x.sheet(0, INTS, 2);
            x.sheet(1, BYTES, 2);
            Due.is("nothing there", x.cell(3, 0, 0), -11);
            Due.is("nobody there", x.taken(1, 0), -11);
            Due.is("a cell outside", x.cell(0, 2, 0), -12);
            Due.is("a place outside", x.taken(18, 0), -12);
            Due.is("another sort", x.copy(0, 0, 1, 0, 1), -13);
            Due.is("another kind", x.taken(0, 1), -13);
            Due.is("a size below 0", x.sheet(0, INTS, -1), -14);
        });
    }

    interface Refusing {
        long call(int... a);
    }

    /** From all that is wrong at once on: each step mends the argument that is told, and the next refusal is due. */
    private static void ladder(String call, Refusing asked, int[] wrong, long first, int[][] steps, long... due) {
        int[] a = wrong.clone();
        Due.is(call + ", all wrong", asked.call(a), first);
        for (int i = 0; i < steps.length; i++) {
            a[steps[i][0]] = steps[i][1];
            Due.is(call + ", step " + (i + 1), asked.call(a), due[i]);
        }
    }

    private static void ladders() {
        String first = "REFUSALS, of several the first one told";
        edge(TERMS, first, "of the town and its people: from all wrong to none", () -> {
            DoorOfLuck x = rowOfHouses();
            x.person(SOUL, 40);
            x.person(SOUL, 140);
            ladder("brick", a -> x.brick(a[0], a[1]), new int[] {9, 9}, WHO, new int[][] {{0, 0}, {1, 0}}, VALUE, 0);
            ladder("hung", a -> x.hung(a[0], a[1]), new int[] {9, 9}, WHO, new int[][] {{0, 0}, {1, 1}}, VALUE, 1);
            ladder("put", a -> x.put(a[0], a[1], a[2]), new int[] {9, 9, 999}, WHO,
                    new int[][] {{0, 0}, {1, 0}, {2, 0}}, VALUE, VALUE, 0);
            ladder("told", a -> x.told(a[0], a[1]), new int[] {9, 9}, WHO, new int[][] {{0, 0}, {1, 1}}, VALUE, 40);
            ladder("open", a -> x.open(a[0], a[1]), new int[] {9, 9}, WHO, new int[][] {{0, 0}, {1, 2}, {1, 0}}, WHICH_DOOR, STATE, 43);
            x.put(0, 0, 0);
            ladder("after", a -> x.after(a[0], a[1], a[2]), new int[] {9, 0, 9}, WHO,
                    new int[][] {{0, 0}, {1, 1}, {2, 0}}, WHO, WHICH_DOOR, STATE);
            ladder("safe", a -> x.safe(a[0], a[1]), new int[] {9, 9}, WHO, new int[][] {{0, 0}, {1, 0}}, WHICH_DOOR, 1);
            ladder("way", a -> x.way(a[0], a[1], a[2]), new int[] {9, 9, 9}, WHO,
                    new int[][] {{0, 0}, {1, 7}, {2, 0}, {1, 3}}, VALUE, VALUE, NONE, 3);
            ladder("together", a -> x.together(a[0], a[1]), new int[] {9, 9}, BAD,
                    new int[][] {{0, 3}, {1, 3}, {0, 1}}, BAD, STATE, 3);
            ladder("friend", a -> x.friend(a[0], a[1]), new int[] {9, 9}, WHO, new int[][] {{0, 0}, {1, 1}}, VALUE, 4);
            ladder("watch", a -> x.watch(a[0], a[1]), new int[] {9, 9}, WHO, new int[][] {{0, 0}, {1, 1}}, VALUE, 0);
            ladder("drawn", a -> x.drawn(a[0], a[1], a[2], a[3]), new int[] {-1, 9, 99, 9}, WHO,
                    new int[][] {{1, 0}, {0, 0}, {2, 0}, {3, 0}}, VALUE, VALUE, VALUE, 40 + 3);
        });
        edge(TERMS, first, "of what is full: behind numbers that are not as told", () -> {
            DoorOfLuck x = new DoorOfLuck();
            for (int d = 0; d < 12; d++) x.door(0, 1);
            for (int p = 0; p < 6; p++) x.person(SOUL, 0);
            feedAll(x, " ".repeat(158));
            ladder("door", a -> x.door(a[0], a[1]), new int[] {9, 9}, BAD, new int[][] {{0, 0}, {1, 0}, {1, 1}}, BAD, BAD, FULL);
            ladder("person", a -> x.person(a[0], a[1]), new int[] {99, 999}, BAD, new int[][] {{0, 0}, {1, 0}}, BAD, FULL);
            ladder("feed", a -> x.feed(a[0], a[1], 0, 0, 0, a[2]), new int[] {9, 999, 999}, BAD,
                    new int[][] {{0, 5}, {1, 0}, {2, 0}, {0, 2}}, BAD, BAD, FULL, 160);
        });
        edge(TERMS, first, "of walks, told and untold: from all wrong to none", () -> {
            DoorOfLuck x = rowOfHouses();
            x.person(SOUL, 40);
            x.dawn(999);
            row(x, 0, INTS, 0, 1);
            row(x, 1, INTS, 0, 3);
            row(x, 2, INTS, 43, 46, 46);
            ladder("walk", a -> x.walk(a[0], a[1], a[2]), new int[] {9, 9, 9}, BAD,
                    new int[][] {{0, 3}, {0, 1}, {0, 0}, {1, 0}, {2, 0}}, MISSING, BAD, WHO, VALUE, 46);
            ladder("goes", a -> x.goes(a[0], a[1]), new int[] {9, 9}, BAD,
                    new int[][] {{0, 3}, {0, 1}, {0, 0}, {1, 0}}, MISSING, BAD, WHO, STATE);
            int[] wrong = {9, 9, 9, 9};
            int[][] steps = {{1, 3}, {0, 3}, {0, 1}, {0, 0}, {1, 2}, {1, 0}, {2, 0}, {3, 0}};
            for (Refusing asked : List.<Refusing>of(a -> x.kinds(a[0], a[1], a[2], a[3]),
                    a -> x.states(a[0], a[1], a[2], a[3]), a -> x.lucks(a[0], a[1], a[2], a[3]))) {
                ladder("told", asked, wrong, BAD, steps, BAD, MISSING, BAD, MISSING, BAD, WHO, VALUE, 0);
            }
            ladder("judge", a -> x.judge(a[0], a[1], a[2]), wrong, BAD, java.util.Arrays.copyOf(steps, 7),
                    BAD, MISSING, BAD, MISSING, BAD, WHO, 0);
            ladder("laws", a -> x.laws(a[0], a[1], a[2]), wrong, BAD, java.util.Arrays.copyOf(steps, 7),
                    BAD, MISSING, BAD, MISSING, BAD, WHO, 0);
            ladder("whose", a -> x.whose(a[0], a[1]), wrong, BAD, java.util.Arrays.copyOf(steps, 6),
                    BAD, MISSING, BAD, MISSING, BAD, 0);
            ladder("film", a -> x.film(a[0], a[1], a[2]), new int[] {9, 9, 9}, BAD,
                    new int[][] {{1, 3}, {0, 3}, {1, 2}, {0, 1}, {0, 0}, {2, 0}}, BAD, BAD, MISSING, BAD, WHO, 2);
        });
        edge(TERMS, first, "of the host: from all wrong to none", () -> {
            DoorOfLuck x = rowOfHouses();
            row(x, 0, INTS, 5, 50);
            row(x, 1, BYTES, 5, 50);
            ladder("sheet", a -> x.sheet(a[0], a[1], a[2]), new int[] {9, 9, -1}, BAD,
                    new int[][] {{0, 2}, {1, 0}, {2, 41}, {2, 1}}, BAD, BELOW, BAD, 1);
            ladder("cell", a -> x.cell(a[0], a[1], 0), new int[] {9, 9}, BAD,
                    new int[][] {{0, 3}, {0, 0}, {1, 0}}, MISSING, OUTSIDE, 1);
            ladder("copy", a -> x.copy(a[0], a[1], a[2], a[3], a[4]), new int[] {9, 9, 9, 9, 9}, BAD,
                    new int[][] {{0, 3}, {2, 3}, {0, 0}, {2, 1}, {2, 0}, {1, 0}, {3, 1}, {4, 1}},
                    BAD, MISSING, MISSING, UNLIKE, OUTSIDE, OUTSIDE, OUTSIDE, 1);
            row(x, 0, INTS, 5, 50);
            ladder("peopleBy", a -> x.peopleBy(a[0], a[1], a[2], a[3]), new int[] {9, 9, 9, 9}, BAD,
                    new int[][] {{0, 3}, {1, 1}, {3, 1}, {0, 0}, {1, 2}, {2, 0}}, BAD, BAD, MISSING, UNLIKE, OUTSIDE, 1);
            ladder("taken", a -> x.taken(a[0], a[1]), new int[] {99, 9}, BAD,
                    new int[][] {{1, 5}, {0, 5}, {0, 0}, {1, 0}}, OUTSIDE, MISSING, UNLIKE, 0);
        });
    }
}
