import java.util.Random;

/** Runs of 512 calls, by fixed seeds, of which every answer is held against the Model's. */
public final class RandomRuns {
    private static final int CALLS = 512;
    private static final String[] SCRAPS = {
        "gains", "dares", "leaves", "or", "and", "not", "luck", "door", "house", "day", "opened", "more",
        "0", "1", "2", "7", "50", "99", "100", "9999", "12345", "00001", "(", ")", ";", "+", "-", "*", "<", "=",
        " ", "\n", "\t", "@", "lucks", "orand", "A", "(((", "---", "not not "};

    private final Random random;
    private final DoorOfLuck x = new DoorOfLuck();
    private final Model model = new Model();
    private String call;
    private long got;
    private long want;
    /** How often an argument is one that no town has. */
    private final int wildness;
    private String toFeed = "";

    private RandomRuns(long seed) {
        random = new Random(seed);
        wildness = (int) (seed % 3) * 20;
    }

    private int below(int n) {
        return random.nextInt(n);
    }

    private int arg(int least, int most) {
        if (wildness > 0 && below(wildness) == 0) {
            int[] wild = {least - 1, most + 1, -1, -2, 255, 256, 4096, 65536, Integer.MIN_VALUE, Integer.MAX_VALUE,
                Integer.MAX_VALUE - 1, -40, random.nextInt()};
            return wild[below(wild.length)];
        }
        return least + below(most - least + 1);
    }

    private int who() {
        return arg(0, Math.max(0, Math.min(5, model.people.size() - 1 + (below(20) == 0 ? 1 : 0))));
    }

    private int door() {
        return arg(0, Math.max(0, Math.min(11, model.doors.size() - 1 + (below(20) == 0 ? 1 : 0))));
    }

    private int sheet() {
        return arg(0, 3);
    }

    private void answered(String name, long got, long want, long... args) {
        StringBuilder told = new StringBuilder(name).append('(');
        for (int i = 0; i < args.length; i++) told.append(i == 0 ? "" : ", ").append(args[i]);
        call = told.append(')').toString();
        this.got = got;
        this.want = want;
    }

    // ---- texts that may be right

    private String either(int deep) {
        String s = both(deep);
        while (below(6) == 0) s += sep() + "or" + sep() + both(deep);
        return s;
    }

    private String both(int deep) {
        String s = not(deep);
        while (below(6) == 0) s += sep() + "and" + sep() + not(deep);
        return s;
    }

    private String not(int deep) {
        if (deep > 0 && below(5) == 0) return "not " + not(deep - 1);
        String s = sum(deep);
        if (below(4) == 0) s += (below(2) == 0 ? "<" : " = ") + sum(deep);
        return s;
    }

    private String sum(int deep) {
        String s = term(deep);
        while (below(4) == 0) s += (below(2) == 0 ? "+" : "-") + term(deep);
        return s;
    }

    private String term(int deep) {
        String s = one(deep);
        while (below(5) == 0) s += "*" + one(deep);
        return s;
    }

    private String one(int deep) {
        if (deep > 0 && below(6) == 0) return "-" + one(deep - 1);
        if (deep > 0 && below(5) == 0) return "(" + either(deep - 1) + ")";
        if (below(2) == 0) return String.valueOf(below(below(2) == 0 ? 10 : 10000));
        return SCRAPS[6 + below(6)];
    }

    private String sep() {
        return below(8) == 0 ? "\n " : " ";
    }

    private String aText() {
        int deep = 2 + below(6);
        String dares = below(2) == 0 ? String.valueOf(below(2)) : either(deep);
        String s = "gains " + either(deep) + ";dares " + dares + " ; leaves " + either(deep) + ";";
        if (below(3) == 0) {
            int at = below(s.length() + 1);
            s = s.substring(0, at) + SCRAPS[below(SCRAPS.length)] + s.substring(Math.min(s.length(), at + below(3)));
        }
        if (below(12) == 0) s = s.substring(0, below(s.length() + 1));
        return s;
    }

    private void feed() {
        if (toFeed.isEmpty()) toFeed = aText();
        int n = Math.min(5, toFeed.length());
        if (wildness > 0 && below(wildness * 2) == 0) n = arg(0, 7);
        int[] b = new int[5];
        for (int i = 0; i < 5; i++) b[i] = i < toFeed.length() ? toFeed.charAt(i) : 0;
        if (wildness > 0 && below(wildness * 2) == 0) b[below(5)] = arg(0, 255);
        toFeed = toFeed.substring(Math.min(toFeed.length(), Math.max(0, n)));
        answered("feed", x.feed(n, b[0], b[1], b[2], b[3], b[4]), model.feed(n, b), n, b[0], b[1], b[2], b[3], b[4]);
    }

    // ---- calls

    private void build() {
        if (toFeed.isEmpty() && below(3) > 0) {
            answered("text", x.text(), model.text());
            return;
        }
        switch (below(6)) {
            case 0: case 1: {
                int a = arg(0, 7), b = arg(0, 7);
                answered("door", x.door(a, b), model.door(a, b), a, b);
                break;
            }
            case 2: {
                int a = arg(0, 59), b = arg(0, 799);
                answered("person", x.person(a, b), model.person(a, b), a, b);
                break;
            }
            default: feed();
        }
    }

    private void change() {
        switch (below(10)) {
            case 0: {
                int v = below(10) == 0 ? 999 : arg(0, 999);
                answered("dawn", x.dawn(v), model.dawn(v), v);
                break;
            }
            case 1: {
                int d = door(), is = arg(0, 1);
                if (below(2) == 0) is = 0;
                answered("brick", x.brick(d, is), model.brick(d, is), d, is);
                break;
            }
            case 2: {
                int t = arg(0, model.texts.size());
                answered("force", x.force(t), model.force(t), t);
                break;
            }
            case 3: case 4: {
                int p = who(), what = arg(0, 2);
                int v = what == 0 ? arg(0, 7) : what == 1 ? arg(0, below(3) == 0 ? 0 : 99) : arg(-1, model.doors.size() - 1);
                answered("put", x.put(p, what, v), model.put(p, what, v), p, what, v);
                break;
            }
            case 5: case 6: {
                int p = who(), d = door();
                answered("open", x.open(p, d), model.open(p, d), p, d);
                break;
            }
            case 7: {
                int p = who(), q = who(), d = door();
                answered("after", x.after(p, q, d), model.after(p, q, d), p, q, d);
                break;
            }
            case 8: {
                int s = sheet(), p = who();
                answered("goes", x.goes(s, p), model.goes(s, p), s, p);
                break;
            }
            default: {
                if (below(3) == 0) answered("image", x.image(), model.image());
                else if (below(3) == 0) answered("back", x.back(), model.back());
                else build();
            }
        }
    }

    private void ask() {
        int p = who(), d = door();
        switch (below(14)) {
            case 0: {
                int what = arg(0, 5);
                answered("count", x.count(what), model.count(what), what);
                break;
            }
            case 1: {
                int what = arg(0, 4);
                answered("hung", x.hung(d, what), model.hung(d, what), d, what);
                break;
            }
            case 2: {
                int part = arg(0, 2);
                answered("asks", x.asks(part, p, d), model.asks(part, p, d), part, p, d);
                break;
            }
            case 3: {
                int what = arg(0, 7);
                answered("told", x.told(p, what), model.told(p, what), p, what);
                break;
            }
            case 4: {
                answered("safe", x.safe(p, d), model.safe(p, d), p, d);
                break;
            }
            case 5: {
                int house = arg(0, 7), what = arg(0, 1);
                answered("way", x.way(p, house, what), model.way(p, house, what), p, house, what);
                break;
            }
            case 6: {
                int some = arg(0, 1 << model.people.size()), house = arg(0, 7);
                if (below(2) == 0) some = 1 << below(6) | 1 << below(6);
                answered("together", x.together(some, house), model.together(some, house), some, house);
                break;
            }
            case 7: {
                int what = arg(0, 1);
                answered("friend", x.friend(p, what), model.friend(p, what), p, what);
                break;
            }
            case 8: {
                int what = arg(0, 1);
                answered("worst", x.worst(what), model.worst(what), what);
                break;
            }
            case 9: {
                int what = arg(0, 1);
                answered("mason", x.mason(what), model.mason(what), what);
                break;
            }
            case 10: {
                int what = arg(0, 1);
                answered("watch", x.watch(p, what), model.watch(p, what), p, what);
                break;
            }
            case 11: {
                answered("doomed", x.doomed(), model.doomed());
                break;
            }
            case 12: {
                int part = arg(0, 1);
                answered("share", x.share(part), model.share(part), part);
                break;
            }
            default: {
                int i = arg(0, 17), kind = arg(0, 6);
                answered("taken", x.taken(i, kind), model.taken(i, kind), i, kind);
            }
        }
    }

    private void askWalks() {
        int s = below(3) == 0 ? sheet() : 0, told = below(3) == 0 ? sheet() : 1, p = who();
        switch (below(10)) {
            case 0: {
                int what = arg(0, 3);
                answered("walk", x.walk(s, p, what), model.walk(s, p, what), s, p, what);
                break;
            }
            case 1: {
                answered("judge", x.judge(s, told, p), model.judge(s, told, p), s, told, p);
                break;
            }
            case 2: {
                int sort = arg(0, 1);
                answered("kinds", x.kinds(s, told, p, sort), model.kinds(s, told, p, sort), s, told, p, sort);
                break;
            }
            case 3: {
                int what = arg(0, 2);
                answered("states", x.states(s, told, p, what), model.states(s, told, p, what), s, told, p, what);
                break;
            }
            case 4: {
                int what = arg(0, 1);
                answered("lucks", x.lucks(s, told, p, what), model.lucks(s, told, p, what), s, told, p, what);
                break;
            }
            case 5: {
                answered("whose", x.whose(s, told), model.whose(s, told), s, told);
                break;
            }
            case 6: {
                answered("laws", x.laws(s, told, p), model.laws(s, told, p), s, told, p);
                break;
            }
            case 7: {
                answered("film", x.film(s, told, p), model.film(s, told, p), s, told, p);
                break;
            }
            case 8: {
                int seed = arg(0, 99999), n = arg(0, 60), what = arg(0, 1);
                answered("drawn", x.drawn(seed, p, n, what), model.drawn(seed, p, n, what), seed, p, n, what);
                break;
            }
            default: {
                int seed = below(3) == 0 ? 99999 : arg(0, 99999), seeds = arg(1, 40), least = arg(0, 99), part = arg(0, 1);
                answered("odds", x.odds(seed, seeds, p, least, part), model.odds(seed, seeds, p, least, part),
                        seed, seeds, p, least, part);
            }
        }
    }

    private void host() {
        int s = below(2) == 0 ? 0 : sheet();
        switch (below(8)) {
            case 0: {
                int sort = arg(below(4) == 0 ? -1 : 0, 2), n = arg(0, below(2) == 0 ? 5 : 40);
                answered("sheet", x.sheet(s, sort, n), model.sheet(s, sort, n), s, sort, n);
                break;
            }
            case 1: {
                int i = arg(0, 10), j = arg(0, 10), n = arg(0, 10), other = sheet();
                answered("copy", x.copy(s, i, other, j, n), model.copy(s, i, other, j, n), s, i, other, j, n);
                break;
            }
            case 2: {
                int sort = model.rows[Math.max(0, Math.min(3, s))] == null || below(4) == 0
                        ? arg(0, 2) : model.rows[Math.max(0, Math.min(3, s))].sort;
                int from = arg(0, 10), n = arg(0, 6);
                answered("peopleBy", x.peopleBy(s, sort, from, n), model.peopleBy(s, sort, from, n), s, sort, from, n);
                break;
            }
            default: {
                Model.Row row = model.rows[Math.max(0, Math.min(3, s))];
                int i = arg(0, row == null ? 3 : row.cells.length);
                int v = below(10) == 0 ? arg(0, 800) : door();
                answered("cell", x.cell(s, i, v), model.cell(s, i, v), s, i, v);
            }
        }
    }

    private void run(String name) {
        StringBuilder sofar = new StringBuilder();
        int start = 20 + below(60);
        for (int n = 0; n < CALLS && Due.allWell(); n++) {
            int kind = below(20);
            if (n < start && below(3) > 0) build();
            else if (kind < 2) build();
            else if (kind < 6) change();
            else if (kind < 10) ask();
            else if (kind < 15) askWalks();
            else host();
            sofar.append("      ").append(call).append(" -> ").append(got).append('\n');
            Due.is(name + ", call " + n + ": " + call, got, want);
        }
        if (!Due.allWell()) Due.tell(name + ":\n" + sofar);
    }

    public static void main(String[] args) {
        int runs = args.length > 0 ? Integer.parseInt(args[0]) : 400;
        int from = args.length > 1 ? Integer.parseInt(args[1]) : 1;
        for (int seed = from; seed < from + runs; seed++) {
            int s = seed;
            Due.test("random run " + s, () -> new RandomRuns(s).run("run " + s));
        }
        Due.close();
    }
}
