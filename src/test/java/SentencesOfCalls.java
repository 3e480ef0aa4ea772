/** Sentences of the promises that name no boundary case: what they say of ordinary inputs, call held against call. */
final class SentencesOfCalls extends Edges {
    private SentencesOfCalls() {
    }

    static void all() {
        theTown();
        theTape();
        people();
        opening();
        ways();
        friends();
        whatIsBest();
        danger();
        walks();
        toldWalks();
        odds();
        theHost();
    }

    /** Houses 0 - 1 - 2 - 3 - 0, and 2 - 4 - 5; nobody yet. */
    private static DoorOfLuck ring() {
        return town(0, 1, 1, 2, 2, 3, 3, 0, 2, 4, 4, 5);
    }

    // ---- the town, the law, people

    private static void theTown() {
        edge(5, "A DOOR is BRICKED (is 1), or not (0): as it was.", "to all who ask of it", () -> {
            DoorOfLuck x = rowOfHouses();
            x.person(FOOTMAN, 0);
            for (int round = 0; round < 3; round++) {
                Due.is("before", x.taken(7, 6) + x.hung(1, 2), 0);
                Due.is("safe", x.safe(0, 1), 1);
                Due.is("bricked", x.brick(1, 1), 0);
                Due.is("then", x.taken(7, 6) + x.hung(1, 2), 2);
                Due.is("not safe", x.safe(0, 1), 0);
                Due.is("what is asked of the door stays", x.hung(1, 0) * 10 + x.hung(1, 1), 12);
                Due.is("not any more", x.brick(1, 0), 1);
            }
        });
    }

    private static void theTape() {
        edge(7, "come behind THE TAPE's, one by one: how many it has.", "a text in pieces of 1 to 5", () -> {
            String text = "gains luck+7*(door-2);dares not luck<3;leaves 12;";
            for (int most = 1; most <= 5; most++) {
                DoorOfLuck x = town(0, 1);
                x.person(SOUL, 20);
                int has = 0;
                for (int n = 1; has < text.length(); n = n % most + 1) {
                    int now = Math.min(n, text.length() - has);
                    int[] b = {255, 255, 255, 255, 255};
                    for (int k = 0; k < now; k++) b[k] = text.charAt(has + k);
                    has += now;
                    Due.is("feed " + now, x.feed(now, b[0], b[1], b[2], b[3], b[4]), has);
                    Due.is("count(5)", x.count(5), has);
                }
                Due.is("text", x.text(), 1);
                x.force(1);
                each("it says", part -> x.asks(part, 0, 0), 6, 1, 12);
            }
        });
        edge(10, "What part 0 gains, 1 dares (1, 0), 2 leaves says of one of PEOPLE and a DOOR (any).", "whatever one's kind is", () -> {
            DoorOfLuck x = town(0, 1, 2, 3);
            for (int kind = 0; kind < 6; kind++) x.person(10 * kind + 9, 40);
            for (int p = 0; p < 6; p++) x.put(p, 2, 0);
            for (int p = 0; p < 6; p++) each("the first law", part -> x.asks(part, 0, 0), 3, 1, 0);
            law(x, "gains 7-more;dares door;leaves luck-door;");
            for (int p = 0; p < 6; p++) {
                int one = p;
                each("of door 0", part -> x.asks(part, one, 0), -2, 0, 40);
                each("of door 1", part -> x.asks(part, one, 1), -2, 1, 39);
            }
        });
    }

    private static void people() {
        edge(11, "One of PEOPLE (kindMore: 10 times KIND, and MORE; houseLuck: 100 times the HOUSE, and LUCK): the number.",
                "each kind and more, each house", () -> {
            for (int kindMore = 0; kindMore < 60; kindMore++) {
                DoorOfLuck x = new DoorOfLuck();
                int houseLuck = 100 * (kindMore % 8) + (37 * kindMore + 5) % 100;
                Due.is("person", x.person(0, 0) + x.person(kindMore, houseLuck), 1);
                each("told", what -> x.told(1, what), houseLuck / 100, houseLuck % 100, NONE, kindMore / 10, kindMore % 10, 0, 0);
            }
        });
        edge(13, "6 DOORS (bits) that may be one's END by LUCK and that:", "one's END is one of them on each step of a way", () -> {
            for (int end = 0; end < 4; end++) {
                DoorOfLuck x = town(0, 1, 1, 2, 2, 3, 3, 0);
                x.person(SOUL, 40);
                x.put(0, 2, end);
                int opened = 0;
                for (int d = 0; d < 4; d++) {
                    Due.is("ahead of " + d, x.told(0, 6), 15 & ~opened);
                    Due.is("the end is one of them", x.told(0, 6) >> end & 1, 1);
                    opened |= 1 << d;
                    if (x.open(0, d) == 0) break;
                }
                Due.is("without luck", x.told(0, 6), opened);
                Due.is("the end is one of them", x.told(0, 6) >> end & 1, 1);
            }
        });
    }

    // ---- opening, ways

    private static void opening() {
        edge(15, "One OPENS it, truly, and another one", "what open() does to one, and a house for the other", () -> {
            for (int kind = 0; kind < 6; kind++) {
                DoorOfLuck x = ring();
                DoorOfLuck y = ring();
                for (DoorOfLuck z : new DoorOfLuck[] {x, y}) {
                    z.person(10 * kind + 5, 40);
                    z.person(SOUL, 30);
                    z.put(1, 2, 1);
                }
                for (int d : new int[] {0, 1, 4, 5, 5}) {
                    Due.is("kind " + kind + ", door " + d, x.after(0, 1, d), y.open(0, d));
                    for (int what = 0; what < 6; what++) Due.is("then " + what, x.told(0, what), y.told(0, what));
                    Due.is("the other's house", x.told(1, 0), x.told(0, 0));
                }
                each("the other has", what -> x.told(1, what), 4, 30, 1, 0, 0, 0);
            }
        });
    }

    /** How far it is by the doors (bits), found by going one door further each time. */
    private static int[] far(DoorOfLuck x, int from, int doors) {
        int[] far = {NONE, NONE, NONE, NONE, NONE, NONE, NONE, NONE};
        far[from] = 0;
        for (int k = 0; k < 8; k++) {
            for (int d = 0; d < x.count(1); d++) {
                int a = x.hung(d, 0), b = x.hung(d, 1);
                if ((doors >> d & 1) == 0) continue;
                if (far[a] == k && far[b] == NONE) far[b] = k + 1;
                if (far[b] == k && far[a] == NONE) far[a] = k + 1;
            }
        }
        return far;
    }

    private static int safeDoors(DoorOfLuck x, int p) {
        int bits = 0;
        for (int d = 0; d < x.count(1); d++) bits |= x.safe(p, d) << d;
        return bits;
    }

    private static int reached(int[] far) {
        int bits = 0;
        for (int house = 0; house < 8; house++) if (far[house] >= 0) bits |= 1 << house;
        return bits;
    }

    /** The ring with a soul, a lady and a gypsy, all in a house, of whom the ends and a bricked door are of the round. */
    private static DoorOfLuck peopled(int round) {
        DoorOfLuck x = ring();
        int house = 100 * (round % 6);
        x.person(SOUL, house + 40);
        x.person(LADY, house + 50);
        x.person(GYPSY, house + 60);
        x.put(0, 2, round % 7 - 1);
        x.put(1, 2, round % 5 - 1);
        x.put(2, 2, round % 4 - 1);
        x.brick(round % 6, 1);
        if (round % 3 == 2) law(x, "gains 1;dares not door=" + round % 5 + ";leaves 0;");
        return x;
    }

    private static void ways() {
        edge(17, "A WAY of one alone to a HOUSE:", "in thirty towns: by safe() and hung(), door by door", () -> {
            for (int round = 0; round < 30; round++) {
                DoorOfLuck x = peopled(round);
                int[] far = far(x, x.told(0, 0), safeDoors(x, 0));
                Due.is("houses of one alone", x.told(0, 7), reached(far));
                for (int house = 0; house < 8; house++) {
                    Due.is("how many, to " + house, x.way(0, house, 0), far[house]);
                    wayFits(x, house, far);
                }
            }
        });
        edge(18, "By how many DOORS there is a WAY of some (bits, one at least) from the HOUSE in which they all are to a HOUSE;",
                "in thirty towns: each set of three", () -> {
            for (int round = 0; round < 30; round++) {
                DoorOfLuck x = peopled(round);
                int[] safe = {safeDoors(x, 0), safeDoors(x, 1), safeDoors(x, 2)};
                for (int some = 1; some < 8; some++) {
                    int doors = 0;
                    for (int p = 0; p < 3; p++) if ((some >> p & 1) == 1) doors |= safe[p];
                    int[] far = far(x, x.told(0, 0), doors);
                    for (int house = 0; house < 8; house++) Due.is("some " + some, x.together(some, house), far[house]);
                }
            }
        });
    }

    /** The way's number tells doors that lead, one behind the other, from where one is to the house. */
    private static void wayFits(DoorOfLuck x, int house, int[] far) {
        int number = x.way(0, house, 1);
        if (far[house] <= 0) {
            Due.is("the number, to " + house, number, far[house]);
            return;
        }
        int at = house;
        for (int k = far[house]; k > 0; k--) {
            int last = number % 17 - 1;
            int from = x.hung(last, 0) == at ? x.hung(last, 1) : x.hung(last, 0);
            for (int d = 0; d < last; d++) {
                boolean fits = x.safe(0, d) == 1 && (x.hung(d, 0) == at && far[x.hung(d, 1)] == k - 1
                        || x.hung(d, 1) == at && far[x.hung(d, 0)] == k - 1);
                if (fits) Due.tell("door " + d + " is less than " + last);
            }
            Due.is("safe", x.safe(0, last), 1);
            Due.is("one door less away", far[from], k - 1);
            at = from;
            number /= 17;
        }
        Due.is("no more doors", number, 0);
    }

    private static void friends() {
        edge(19, "there would be WAYS of both from the HOUSE one is in to most HOUSES,", "in thirty towns, the others in other houses", () -> {
            for (int round = 0; round < 30; round++) {
                DoorOfLuck x = peopled(round);
                x.put(1, 0, (round + 3) % 8);
                x.put(2, 0, 7);
                int[] safe = {safeDoors(x, 0), safeDoors(x, 1), safeDoors(x, 2)};
                for (int p = 0; p < 3; p++) {
                    int from = x.told(p, 0);
                    int best = NONE;
                    int most = Integer.bitCount(reached(far(x, from, safe[p])));
                    for (int q = 0; q < 3; q++) {
                        int houses = Integer.bitCount(reached(far(x, from, safe[p] | safe[q])));
                        if (q == p || houses <= most) continue;
                        best = q;
                        most = houses;
                    }
                    Due.is("friend of " + p, x.friend(p, 0), best);
                    Due.is("to how many", x.friend(p, 1), most);
                }
            }
        });
    }

    // ---- what is best

    private static void whatIsBest() {
        edge(20, "The DOOR that is END of most,", "by whose end each is", () -> {
            int[][] ends = {{0, 1, 1, 2, 2, 2}, {5, 5, 5, 0, 0, 1}, {3, 4, 5, 3, 4, 5}, {NONE, NONE, 2, NONE, 1, 1}};
            int[][] due = {{2, 3}, {5, 3}, {3, 2}, {1, 2}};
            for (int i = 0; i < ends.length; i++) {
                DoorOfLuck x = ring();
                for (int p = 0; p < 6; p++) x.person(10 * p, 0);
                for (int p = 0; p < 6; p++) x.put(p, 2, ends[i][p]);
                each("worst, " + i, x::worst, due[i][0], due[i][1]);
            }
        });
        edge(21, "The DOOR such that, were it BRICKED, if it isn't, or not, if it is, there would be WAYS of each one alone to most HOUSES, together,",
                "in thirty towns: each door truly so, by told()", () -> {
            for (int round = 0; round < 30; round++) {
                DoorOfLuck x = peopled(round);
                x.put(1, 0, (round + 2) % 6);
                if (round % 2 == 0) for (int d = 1; d < 6; d += 2) x.brick(d, 1);
                int best = NONE;
                int most = together(x);
                for (int d = 0; d < 6; d++) {
                    int was = x.hung(d, 2);
                    x.brick(d, 1 - was);
                    int houses = together(x);
                    x.brick(d, was);
                    if (houses <= most) continue;
                    best = d;
                    most = houses;
                }
                each("mason, round " + round, x::mason, best, most);
            }
        });
        edge(24, "LUCK of all, together, by 99 times how many PEOPLE there are: part 0 above, 1 below the line,", "one to six people", () -> {
            DoorOfLuck x = new DoorOfLuck();
            int sum = 0;
            for (int n = 1; n <= 6; n++) {
                x.person(SOUL, 100 * n + 13 * n);
                sum += 13 * n;
                Due.is("the same share of " + n, x.share(0) * 99 * n, sum * x.share(1));
                for (int f = 2; f < 600; f++) if (x.share(0) % f + x.share(1) % f == 0) Due.tell("both by " + f);
            }
        });
    }

    private static int together(DoorOfLuck x) {
        int sum = 0;
        for (int p = 0; p < x.count(0); p++) sum += Integer.bitCount(x.told(p, 7));
        return sum;
    }

    private static void danger() {
        edge(22, "Of all sets of DOORS but for which one isn't IN DANGER that of fewest,", "in thirty towns: all sets of five, bricked, by doomed()", () -> {
            for (int round = 0; round < 30; round++) {
                DoorOfLuck x = town(0, 1, 1, 2, 0, 2, 2, 3, 3, 1);
                x.person(round % 2 == 0 ? SOUL : FOOTMAN, 100 * (round % 4));
                x.put(0, 2, round % 5);
                if (round % 3 > 0) x.brick(round / 3 % 5, 1);
                int bricked = 0;
                for (int d = 0; d < 5; d++) bricked |= x.hung(d, 2) << d;
                int best = NONE;
                for (int set = 0; set < 32; set++) {
                    for (int d = 0; d < 5; d++) x.brick(d, (bricked | set) >> d & 1);
                    if (x.doomed() == 0 && (best == NONE || Integer.bitCount(set) < Integer.bitCount(best))) best = set;
                }
                for (int d = 0; d < 5; d++) x.brick(d, bricked >> d & 1);
                each("watch, round " + round, what -> x.watch(0, what), best, Integer.bitCount(best));
            }
        });
    }

    // ---- walks

    private static final int[][] WALKS = {{0}, {0, 1, 4, 5}, {3, 2, 1, 0}, {5, 4, 0, 0, 3}, {0, 0, 1, 1, 1, 4, 4, 4}, {2, 2, 3, 3}};

    private static void walks() {
        edge(25, "are TRIED by one, one behind the other, in thought: LUCK then (what 0), the HOUSE (1),", "what open() answers of each", () -> {
            for (int round = 0; round < 18; round++) {
                for (int[] doors : WALKS) {
                    DoorOfLuck x = peopled(round);
                    row(x, 0, round % 3, doors);
                    int luck = x.walk(0, 0, 0), house = x.walk(0, 0, 1), opens = x.walk(0, 0, 2);
                    int opened = 0;
                    for (int d : doors) if (x.open(0, d) != STATE) opened++;
                    Due.is("luck", luck, x.told(0, 1));
                    Due.is("the house", house, x.told(0, 0));
                    Due.is("how many", opens, opened);
                }
            }
        });
        edge(27, "SHEET s tells DOORS that are TRIED, SHEET told LUCK of one", "what open() leaves of each", () -> {
            for (int round = 0; round < 18; round++) {
                for (int[] doors : WALKS) {
                    DoorOfLuck x = peopled(round);
                    row(x, 0, round % 3, doors);
                    x.sheet(1, SHORTS, doors.length);
                    x.image();
                    for (int i = 0; i < doors.length; i++) {
                        x.open(0, doors[i]);
                        x.cell(1, i, x.told(0, 1));
                    }
                    x.back();
                    Due.is("none is otherwise", x.judge(0, 1, 0), NONE);
                    x.cell(1, doors.length - 1, 100);
                    Due.is("the last", x.judge(0, 1, 0), doors.length - 1);
                    x.cell(1, doors.length / 2, -1);
                    Due.is("the one in the middle", x.judge(0, 1, 0), doors.length / 2);
                }
            }
        });
    }

    // ---- told walks

    private static void toldWalks() {
        edge(29, "By which, were it so now, that would be -1:", "as judge() answers once it is so: houses, ends", () -> {
            for (int round = 0; round < 12; round++) {
                DoorOfLuck x = filmed(round);
                int houses = 0, ends = 0;
                int house = x.told(0, 0), end = x.told(0, 2);
                for (int v = 0; v < 8; v++) {
                    x.put(0, 0, v);
                    if (x.judge(0, 1, 0) == NONE) houses |= 1 << v;
                }
                x.put(0, 0, house);
                for (int v = -1; v < 6; v++) {
                    x.put(0, 2, v);
                    if (x.judge(0, 1, 0) == NONE) ends |= 1 << (v < 0 ? 12 : v);
                }
                x.put(0, 2, end);
                Due.is("houses, round " + round, x.states(0, 1, 0, 0), houses);
                Due.is("ends, round " + round, x.states(0, 1, 0, 2), ends);
                Due.is("where one is, is one of them", houses >> house & 1, 1);
            }
        });
        edge(30, "LUCK (0 .. 99) by which that would be -1: how many (what 0), the least", "as judge() answers once it is so", () -> {
            for (int round = 0; round < 12; round++) {
                DoorOfLuck x = filmed(round);
                int many = 0, least = NONE;
                for (int v = 99; v >= 0; v--) {
                    x.put(0, 1, v);
                    if (x.judge(0, 1, 0) != NONE) continue;
                    many++;
                    least = v;
                }
                Due.is("how many, round " + round, x.lucks(0, 1, 0, 0), many);
                Due.is("the least, round " + round, x.lucks(0, 1, 0, 1), least);
            }
        });
        edge(28, "KINDS (sort 0; bits 0 .. 5), MORE (1; bits 0 .. 9) by which, were they one's, that would be -1.", "as judge() answers of one who is so", () -> {
            for (int round = 0; round < 12; round++) {
                for (int sort = 0; sort < 2; sort++) {
                    int bits = 0;
                    int own = filmed(round).told(0, 3) * 10 + filmed(round).told(0, 4);
                    for (int v = 0; v < (sort == 0 ? 6 : 10); v++) {
                        DoorOfLuck x = filmed(round);
                        int like = x.person(sort == 0 ? v * 10 + own % 10 : own / 10 * 10 + v, x.told(0, 0) * 100 + x.told(0, 1));
                        x.put(like, 2, x.told(0, 2));
                        if (x.judge(0, 1, like) == NONE) bits |= 1 << v;
                    }
                    DoorOfLuck x = filmed(round);
                    int by = sort;
                    Due.is("sort " + by + ", round " + round, x.kinds(0, 1, 0, by), bits);
                }
            }
        });
        edge(32, "TEXTS (bits), were they THE LAW, by which that would be -1.", "as judge() answers once it is so", () -> {
            for (int round = 0; round < 12; round++) {
                DoorOfLuck x = filmed(round);
                int bits = 0;
                for (int t = 0; t < x.count(3); t++) {
                    x.force(t);
                    if (x.judge(0, 1, 0) == NONE) bits |= 1 << t;
                }
                x.force(round % 3);
                Due.is("round " + round, x.laws(0, 1, 0), bits);
                Due.is("the law", x.count(4), round % 3);
            }
        });
    }

    /** The ring, with three texts, one of a kind of the round, and sheet 1 telling of the walk on sheet 0. */
    private static DoorOfLuck filmed(int round) {
        DoorOfLuck x = ring();
        read(x, "gains 5;dares not door=4;leaves 2;");
        read(x, "gains 3*(house<3);dares 1;leaves 0;");
        x.force(round % 3);
        x.dawn(round);
        x.person(round % 6 * 10 + 3, 40 + round);
        x.put(0, 2, round % 7 - 1);
        row(x, 0, INTS, WALKS[round % WALKS.length]);
        x.film(0, 1, 0);
        return x;
    }

    private static void odds() {
        edge(35, "By how many of so many (1 .. 40) seeds, SEED and each 1 more", "counted by drawn()", () -> {
            DoorOfLuck x = peopled(1);
            for (int seeds = 1; seeds <= 10; seeds++) {
                for (int least = 40; least < 80; least += 13) {
                    int many = 0;
                    for (int i = 0; i < seeds; i++) if (x.drawn(77 + i, 0, 20, 0) >= least) many++;
                    Due.is("the same part", x.odds(77, seeds, 0, least, 0) * seeds, many * x.odds(77, seeds, 0, least, 1));
                }
            }
        });
    }

    // ---- the host

    private static void theHost() {
        edge(39, "Number i of a SHEET becomes v (of bytes, shorts its lowest 8, 16 bits): 1.", "each place of each sort", () -> {
            for (int sort = 0; sort < 3; sort++) {
                DoorOfLuck x = town(0, 1);
                x.person(SOUL, 0);
                x.sheet(2, sort, 40);
                for (int i = 0; i < 40; i++) Due.is("cell " + i, x.cell(2, i, 100 + i % 2), 1);
                Due.is("no doors", x.walk(2, 0, 0), BAD);
                for (int i = 0; i < 40; i++) Due.is("cell " + i, x.cell(2, i, 0), 1);
                Due.is("forty doors", x.walk(2, 0, 2), 40);
            }
        });
        edge(42, "What lies at place i: 0 .. 5 PEOPLE, 6 .. 17 DOORS, taken for", "place by place", () -> {
            DoorOfLuck x = rowOfHouses();
            x.person(GYPSY, 0);
            x.person(WIDOW, 0);
            long[] due = {0, 1, MISSING, MISSING, MISSING, MISSING, UNLIKE, UNLIKE, UNLIKE, MISSING, MISSING, MISSING,
                MISSING, MISSING, MISSING, MISSING, MISSING, MISSING, OUTSIDE};
            each("for a soul", i -> x.taken(i, 0), due);
            due[0] = due[1] = UNLIKE;
            each("for a butler", i -> x.taken(i, 3), due);
        });
        edge(42, "6 a DOOR: whether it is BRICKED (1, 0).", "each of twelve", () -> {
            DoorOfLuck x = new DoorOfLuck();
            x.person(SOUL, 0);
            for (int d = 0; d < 12; d++) x.door(0, 1);
            for (int d = 0; d < 12; d += 3) x.brick(d, 1);
            for (int d = 0; d < 12; d++) Due.is("door " + d, x.taken(6 + d, 6), d % 3 == 0 ? 1 : 0);
            Due.is("one of people is no door", x.taken(0, 6), UNLIKE);
        });
    }
}
