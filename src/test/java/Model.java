import java.util.ArrayList;
import java.util.List;
import java.util.TreeSet;

/**
 * The document once more, as slowly and as literally as can be: texts are trees of lambdas, ways are
 * all sequences of doors, sets to watch are all sets. DoorOfLuck is held against it by RandomRuns.
 */
final class Model {
    static final long NO = -4611686018427387904L;

    static final class Fault extends RuntimeException {
        final int place;

        Fault(int place) {
            super(null, null, false, false);
            this.place = place;
        }
    }

    interface Expr {
        int of(Person p, int door, int day);
    }

    static final class Person {
        int kind, more, house, luck, end = -1;
        TreeSet<Integer> opened = new TreeSet<>();

        Person copy() {
            Person c = new Person();
            c.kind = kind;
            c.more = more;
            c.house = house;
            c.luck = luck;
            c.end = end;
            c.opened = new TreeSet<>(opened);
            return c;
        }

        int openedBits() {
            int bits = 0;
            for (int d : opened) bits += 1 << d;
            return bits;
        }
    }

    static final class Door {
        int one, other;
        boolean bricked;
    }

    static final class Row {
        int sort;
        int[] cells;
    }

    List<Door> doors = new ArrayList<>();
    List<Person> people = new ArrayList<>();
    int day;
    List<Expr[]> texts = new ArrayList<>();
    int law;
    String tape = "";
    Row[] rows = new Row[4];

    // the image
    List<Door> imageDoors;
    List<Person> imagePeople;
    int imageDay, imageLaw;

    Model() {
        texts.add(new Reader("gains 3 ; dares 1 ; leaves 0 ; ").text());
    }

    // ---- texts

    static final class Reader {
        final String src;
        int pos;
        String token;
        int place;

        Reader(String src) {
            this.src = src;
            next();
        }

        void next() {
            while (pos < src.length() && (src.charAt(pos) == ' ' || src.charAt(pos) == '\n')) pos++;
            place = pos;
            if (pos == src.length()) {
                token = "";
                return;
            }
            char c = src.charAt(pos);
            int to = pos + 1;
            if (c >= 'a' && c <= 'z') {
                while (to < src.length() && src.charAt(to) >= 'a' && src.charAt(to) <= 'z') to++;
            } else if (c >= '0' && c <= '9') {
                while (to < src.length() && src.charAt(to) >= '0' && src.charAt(to) <= '9') to++;
            }
            token = src.substring(pos, to);
            pos = to;
        }

        void due(String what) {
            if (!token.equals(what)) throw new Fault(place);
            next();
        }

        boolean comes(String what) {
            if (!token.equals(what)) return false;
            next();
            return true;
        }

        Expr[] text() {
            Expr[] e = new Expr[3];
            String[] keys = {"gains", "dares", "leaves"};
            for (int i = 0; i < 3; i++) {
                due(keys[i]);
                e[i] = or(new int[1]);
                due(";");
            }
            if (!token.isEmpty() || place < src.length()) throw new Fault(place);
            return e;
        }

        Expr or(int[] open) {
            Expr left = and(open);
            while (comes("or")) {
                Expr a = left, b = and(open);
                left = (p, d, day) -> a.of(p, d, day) != 0 | b.of(p, d, day) != 0 ? 1 : 0;
            }
            return left;
        }

        Expr and(int[] open) {
            Expr left = not(open);
            while (comes("and")) {
                Expr a = left, b = not(open);
                left = (p, d, day) -> a.of(p, d, day) != 0 & b.of(p, d, day) != 0 ? 1 : 0;
            }
            return left;
        }

        void opens(int[] open) {
            if (open[0] == 5) throw new Fault(place);
            open[0]++;
            next();
        }

        Expr not(int[] open) {
            if (token.equals("not")) {
                opens(open);
                Expr a = not(open);
                open[0]--;
                return (p, d, day) -> a.of(p, d, day) == 0 ? 1 : 0;
            }
            Expr a = sum(open);
            if (comes("<")) {
                Expr b = sum(open);
                return (p, d, day) -> a.of(p, d, day) < b.of(p, d, day) ? 1 : 0;
            }
            if (comes("=")) {
                Expr b = sum(open);
                return (p, d, day) -> a.of(p, d, day) == b.of(p, d, day) ? 1 : 0;
            }
            return a;
        }

        Expr sum(int[] open) {
            Expr left = term(open);
            while (true) {
                Expr a = left;
                if (comes("+")) {
                    Expr b = term(open);
                    left = (p, d, day) -> a.of(p, d, day) + b.of(p, d, day);
                } else if (comes("-")) {
                    Expr b = term(open);
                    left = (p, d, day) -> a.of(p, d, day) - b.of(p, d, day);
                } else {
                    return left;
                }
            }
        }

        Expr term(int[] open) {
            Expr left = one(open);
            while (comes("*")) {
                Expr a = left, b = one(open);
                left = (p, d, day) -> a.of(p, d, day) * b.of(p, d, day);
            }
            return left;
        }

        Expr one(int[] open) {
            if (token.equals("(")) {
                opens(open);
                Expr a = or(open);
                due(")");
                open[0]--;
                return a;
            }
            if (token.equals("-")) {
                opens(open);
                Expr a = one(open);
                open[0]--;
                return (p, d, day) -> -a.of(p, d, day);
            }
            Expr made;
            if (token.matches("[0-9]{1,4}")) {
                int v = Integer.parseInt(token);
                made = (p, d, day) -> v;
            } else {
                switch (token) {
                    case "luck": made = (p, d, day) -> p.luck; break;
                    case "door": made = (p, d, day) -> d; break;
                    case "house": made = (p, d, day) -> p.house; break;
                    case "day": made = (p, d, day) -> day; break;
                    case "opened": made = (p, d, day) -> p.opened.size(); break;
                    case "more": made = (p, d, day) -> p.more; break;
                    default: throw new Fault(place);
                }
            }
            next();
            return made;
        }
    }

    int says(int part, Person p, int d) {
        return texts.get(law)[part].of(p, d, day);
    }

    static int clamp(int v, int lo, int hi) {
        return v < lo ? lo : v > hi ? hi : v;
    }

    int textGains(Person p, int d) {
        return clamp(says(0, p, d), -99, 99);
    }

    int textLeaves(Person p, int d) {
        return clamp(says(2, p, d), 0, 99);
    }

    // ---- kinds

    boolean dares(Person p, int d) {
        if (doors.get(d).bricked) return false;
        boolean said = says(1, p, d) != 0;
        switch (p.kind) {
            case 0: return said;
            case 1: return true;
            case 2: return p.end == d ? false : said;
            case 3: return p.more != day % 7;
            case 4: return p.end == d ? false : said;
            default: return p.end != d;
        }
    }

    int gains(Person p, int d) {
        int g = textGains(p, d);
        int half = (g < 0 ? -1 : 1) * (Math.abs(g) / 2);
        switch (p.kind) {
            case 0: return g;
            case 1: case 3: return g + p.more;
            case 2: return half;
            case 4: return p.luck < 50 ? half + half + p.more : half;
            default: return 0;
        }
    }

    int leaves(Person p, int d) {
        int l = textLeaves(p, d);
        if (p.kind == 3) return l + (p.luck - p.luck % 2) / 2;
        if (p.kind == 4) return l < p.more ? p.more : l;
        return l;
    }

    int across(int d, int house) {
        Door door = doors.get(d);
        if (door.one == house) return door.other;
        if (door.other == house) return door.one;
        return -1;
    }

    boolean tried(Person p, int d) {
        int to = across(d, p.house);
        if (to < 0 || !dares(p, d)) return false;
        p.luck = clamp(p.end == d ? leaves(p, d) : p.luck + gains(p, d), 0, 99);
        p.opened.add(d);
        p.house = to;
        return true;
    }

    boolean isSafe(Person p, int d) {
        return dares(p, d) && p.end != d;
    }

    // ---- ways: all sequences of so many doors

    List<List<Integer>> sequences(int from, int house, List<Person> some) {
        List<List<Integer>> found = new ArrayList<>();
        for (int n = 0; n < 8 && found.isEmpty(); n++) sequence(from, house, some, n, new ArrayList<>(), found);
        return found;
    }

    void sequence(int at, int house, List<Person> some, int n, List<Integer> so, List<List<Integer>> found) {
        if (n == 0) {
            if (at == house) found.add(new ArrayList<>(so));
            return;
        }
        for (int d = 0; d < doors.size(); d++) {
            int to = across(d, at);
            if (to < 0) continue;
            boolean safeForAny = false;
            for (Person p : some) safeForAny |= isSafe(p, d);
            if (!safeForAny) continue;
            so.add(d);
            sequence(to, house, some, n - 1, so, found);
            so.remove(so.size() - 1);
        }
    }

    int wayLength(int from, int house, List<Person> some) {
        List<List<Integer>> all = sequences(from, house, some);
        return all.isEmpty() ? -1 : all.get(0).size();
    }

    int wayNumber(int from, int house, List<Person> some) {
        List<Integer> best = null;
        for (List<Integer> s : sequences(from, house, some)) {
            if (best == null || lastLess(s, best)) best = s;
        }
        if (best == null) return -1;
        int n = 0;
        for (int d : best) n = 17 * n + d + 1;
        return n;
    }

    static boolean lastLess(List<Integer> a, List<Integer> b) {
        for (int i = a.size() - 1; i >= 0; i--) {
            if (!a.get(i).equals(b.get(i))) return a.get(i) < b.get(i);
        }
        return false;
    }

    int housesBits(int from, List<Person> some) {
        int bits = 0;
        for (int h = 0; h < 8; h++) if (h == from || spreads(from, some).contains(h)) bits |= 1 << h;
        return bits;
    }

    TreeSet<Integer> spreads(int from, List<Person> some) {
        TreeSet<Integer> seen = new TreeSet<>();
        List<Integer> todo = new ArrayList<>(List.of(from));
        while (!todo.isEmpty()) {
            int at = todo.remove(0);
            if (!seen.add(at)) continue;
            for (int d = 0; d < doors.size(); d++) {
                int to = across(d, at);
                if (to < 0) continue;
                for (Person p : some) if (isSafe(p, d)) todo.add(to);
            }
        }
        return seen;
    }

    boolean danger(Person p, int but) {
        TreeSet<Integer> seen = new TreeSet<>();
        List<Integer> todo = new ArrayList<>(List.of(p.house));
        while (!todo.isEmpty()) {
            int at = todo.remove(0);
            if (!seen.add(at)) continue;
            for (int d = 0; d < doors.size(); d++) {
                int to = across(d, at);
                if (to < 0 || (but >> d & 1) != 0 || !dares(p, d)) continue;
                if (d == p.end) return true;
                todo.add(to);
            }
        }
        return false;
    }

    int watchBits(Person p) {
        int best = -1;
        for (int set = 0; set < 1 << doors.size(); set++) {
            if (best >= 0 && Integer.bitCount(set) >= Integer.bitCount(best)) continue;
            if (!danger(p, set)) best = set;
        }
        return best;
    }

    // ---- asked for by number

    Person who(int p) {
        return p < 0 || p >= people.size() ? null : people.get(p);
    }

    boolean isDoor(int d) {
        return d >= 0 && d < doors.size();
    }

    int count(int what) {
        int[] all = {people.size(), doors.size(), day, texts.size(), law, tape.length()};
        return what < 0 || what >= all.length ? -2 : all[what];
    }

    int dawn(int v) {
        if (v < 0 || v > 999) return -2;
        int was = day;
        day = v;
        return was;
    }

    int door(int one, int other) {
        if (one < 0 || one > 7 || other < 0 || other > 7 || one == other) return -2;
        if (doors.size() == 12) return -4;
        Door d = new Door();
        d.one = one;
        d.other = other;
        doors.add(d);
        return doors.size() - 1;
    }

    int brick(int d, int is) {
        if (!isDoor(d)) return -5;
        if (is < 0 || is > 1) return -7;
        int was = doors.get(d).bricked ? 1 : 0;
        doors.get(d).bricked = is == 1;
        return was;
    }

    int hung(int d, int what) {
        if (!isDoor(d)) return -5;
        int ends = 0, openers = 0;
        for (int p = 0; p < people.size(); p++) {
            if (people.get(p).end == d) ends += 1 << p;
            if (people.get(p).opened.contains(d)) openers += 1 << p;
        }
        int[] all = {doors.get(d).one, doors.get(d).other, doors.get(d).bricked ? 1 : 0, ends, openers};
        return what < 0 || what >= all.length ? -7 : all[what];
    }

    int feed(int n, int... bytes) {
        if (n < 1 || n > 5) return -2;
        for (int b : bytes) if (b < 0 || b > 255) return -2;
        if (tape.length() + n > 160) return -4;
        for (int i = 0; i < n; i++) tape += (char) bytes[i];
        return tape.length();
    }

    int text() {
        if (texts.size() == 6) return -4;
        String src = tape;
        tape = "";
        try {
            texts.add(new Reader(src).text());
        } catch (Fault fault) {
            return -100 - fault.place;
        }
        return texts.size() - 1;
    }

    int force(int t) {
        if (t < 0 || t >= texts.size()) return -2;
        int was = law;
        law = t;
        return was;
    }

    int asks(int part, int p, int d) {
        if (part < 0 || part > 2 || who(p) == null || !isDoor(d)) return -1000;
        if (part == 0) return textGains(who(p), d);
        if (part == 1) return says(1, who(p), d) != 0 ? 1 : 0;
        return textLeaves(who(p), d);
    }

    int person(int kindMore, int houseLuck) {
        if (kindMore < 0 || kindMore > 59 || houseLuck < 0 || houseLuck > 799) return -2;
        if (people.size() == 6) return -4;
        Person p = new Person();
        p.kind = kindMore / 10;
        p.more = kindMore % 10;
        p.house = houseLuck / 100;
        p.luck = houseLuck % 100;
        people.add(p);
        return people.size() - 1;
    }

    int put(int p, int what, int v) {
        Person one = who(p);
        if (one == null) return -5;
        int was;
        if (what == 0) {
            if (v < 0 || v > 7) return -7;
            was = one.house;
            one.house = v;
        } else if (what == 1) {
            if (v < 0 || v > 99) return -7;
            was = one.luck;
            one.luck = v;
        } else if (what == 2) {
            if (v != -1 && !isDoor(v)) return -7;
            was = one.end;
            one.end = v;
        } else {
            return -7;
        }
        return was;
    }

    int told(int p, int what) {
        Person one = who(p);
        if (one == null) return -5;
        int may = 0;
        for (int d = 0; d < doors.size(); d++) {
            if (one.opened.contains(d) == (one.luck == 0)) may += 1 << d;
        }
        int[] all = {one.house, one.luck, one.end, one.kind, one.more, one.openedBits(), may,
            housesBits(one.house, List.of(one))};
        return what < 0 || what >= all.length ? -7 : all[what];
    }

    int open(int p, int d) {
        Person one = who(p);
        if (one == null) return -5;
        if (!isDoor(d)) return -6;
        if (across(d, one.house) < 0 || !dares(one, d)) return -3;
        tried(one, d);
        return one.luck;
    }

    int after(int p, int q, int d) {
        Person one = who(p), two = who(q);
        if (one == null || two == null || one == two) return -5;
        if (!isDoor(d)) return -6;
        if (one.house != two.house || across(d, one.house) < 0 || !dares(one, d)) return -3;
        two.house = across(d, two.house);
        tried(one, d);
        return one.luck;
    }

    int safe(int p, int d) {
        if (who(p) == null) return -5;
        if (!isDoor(d)) return -6;
        return isSafe(who(p), d) ? 1 : 0;
    }

    int way(int p, int house, int what) {
        Person one = who(p);
        if (one == null) return -5;
        if (house < 0 || house > 7 || what < 0 || what > 1) return -7;
        return what == 0 ? wayLength(one.house, house, List.of(one)) : wayNumber(one.house, house, List.of(one));
    }

    int together(int some, int house) {
        if (some < 1 || some >= 1 << people.size() || house < 0 || house > 7) return -2;
        List<Person> all = new ArrayList<>();
        for (int p = 0; p < people.size(); p++) if ((some >> p & 1) != 0) all.add(people.get(p));
        for (Person p : all) if (p.house != all.get(0).house) return -3;
        return wayLength(all.get(0).house, house, all);
    }

    int friend(int p, int what) {
        Person one = who(p);
        if (one == null) return -5;
        if (what < 0 || what > 1) return -7;
        int best = -1, most = Integer.bitCount(housesBits(one.house, List.of(one)));
        for (int q = 0; q < people.size(); q++) {
            if (q == p) continue;
            int n = Integer.bitCount(housesBits(one.house, List.of(one, people.get(q))));
            if (n > most) {
                most = n;
                best = q;
            }
        }
        return what == 0 ? best : most;
    }

    int worst(int what) {
        if (what < 0 || what > 1) return -2;
        int best = -1, most = 0;
        for (int d = 0; d < doors.size(); d++) {
            int n = Integer.bitCount(hung(d, 3));
            if (n > most) {
                most = n;
                best = d;
            }
        }
        return what == 0 ? best : most;
    }

    int allHouses() {
        int n = 0;
        for (Person p : people) n += Integer.bitCount(housesBits(p.house, List.of(p)));
        return n;
    }

    int mason(int what) {
        if (what < 0 || what > 1) return -2;
        int best = -1, most = allHouses();
        for (int d = 0; d < doors.size(); d++) {
            doors.get(d).bricked ^= true;
            int n = allHouses();
            doors.get(d).bricked ^= true;
            if (n > most) {
                most = n;
                best = d;
            }
        }
        return what == 0 ? best : most;
    }

    int watch(int p, int what) {
        if (who(p) == null) return -5;
        if (what < 0 || what > 1) return -7;
        int bits = watchBits(who(p));
        return what == 0 ? bits : Integer.bitCount(bits);
    }

    int doomed() {
        int bits = 0;
        for (int p = 0; p < people.size(); p++) if (danger(people.get(p), 0)) bits += 1 << p;
        return bits;
    }

    static long fraction(long above, long below, int part) {
        for (long f = below; f > 1; f--) {
            if (above % f == 0 && below % f == 0) {
                above /= f;
                below /= f;
            }
        }
        return part == 0 ? above : below;
    }

    long share(int part) {
        if (part < 0 || part > 1 || people.isEmpty()) return NO;
        long sum = 0;
        for (Person p : people) sum += p.luck;
        return fraction(sum, 99L * people.size(), part);
    }

    int badDoors(int s) {
        if (s < 0 || s > 3) return -2;
        if (rows[s] == null) return -11;
        for (int d : rows[s].cells) if (!isDoor(d)) return -2;
        return 0;
    }

    int walk(int s, int p, int what) {
        if (badDoors(s) != 0) return badDoors(s);
        if (who(p) == null) return -5;
        if (what < 0 || what > 3) return -7;
        Person one = who(p).copy();
        List<Integer> opens = new ArrayList<>();
        for (int d : rows[s].cells) if (tried(one, d)) opens.add(d);
        int at = opens.indexOf(one.end);
        int[] all = {one.luck, one.house, opens.size(), at < 0 ? -1 : at + 1};
        return all[what];
    }

    int goes(int s, int p) {
        if (badDoors(s) != 0) return badDoors(s);
        if (who(p) == null) return -5;
        if (day == 999) return -3;
        for (int d : rows[s].cells) tried(who(p), d);
        day++;
        return who(p).luck;
    }

    int badTold(int s, int told) {
        if (told < 0 || told > 3) return -2;
        if (badDoors(s) != 0) return badDoors(s);
        if (rows[told] == null) return -11;
        return rows[told].cells.length > rows[s].cells.length ? -2 : 0;
    }

    int otherwise(int s, int told, Person copy) {
        for (int i = 0; i < rows[told].cells.length; i++) {
            tried(copy, rows[s].cells[i]);
            if (copy.luck != rows[told].cells[i]) return i;
        }
        return -1;
    }

    int judge(int s, int told, int p) {
        if (badTold(s, told) != 0) return badTold(s, told);
        return who(p) == null ? -5 : otherwise(s, told, who(p).copy());
    }

    int kinds(int s, int told, int p, int sort) {
        if (judge(s, told, p) < -1) return judge(s, told, p);
        if (sort < 0 || sort > 1) return -7;
        int bits = 0;
        for (int v = 0; v < (sort == 0 ? 6 : 10); v++) {
            Person one = who(p).copy();
            if (sort == 0) one.kind = v;
            else one.more = v;
            if (otherwise(s, told, one) == -1) bits += 1 << v;
        }
        return bits;
    }

    int states(int s, int told, int p, int what) {
        if (judge(s, told, p) < -1) return judge(s, told, p);
        if (what != 0 && what != 2) return -7;
        int bits = 0;
        for (int v = 0; v < (what == 0 ? 8 : doors.size()); v++) {
            Person one = who(p).copy();
            if (what == 0) one.house = v;
            else one.end = v;
            if (otherwise(s, told, one) == -1) bits += 1 << v;
        }
        if (what == 2) {
            Person one = who(p).copy();
            one.end = -1;
            if (otherwise(s, told, one) == -1) bits += 4096;
        }
        return bits;
    }

    int lucks(int s, int told, int p, int what) {
        if (judge(s, told, p) < -1) return judge(s, told, p);
        if (what < 0 || what > 1) return -7;
        List<Integer> fit = new ArrayList<>();
        for (int v = 0; v < 100; v++) {
            Person one = who(p).copy();
            one.luck = v;
            if (otherwise(s, told, one) == -1) fit.add(v);
        }
        return what == 0 ? fit.size() : fit.isEmpty() ? -1 : fit.get(0);
    }

    int whose(int s, int told) {
        if (badTold(s, told) != 0) return badTold(s, told);
        int bits = 0;
        for (int p = 0; p < people.size(); p++) if (judge(s, told, p) == -1) bits += 1 << p;
        return bits;
    }

    int laws(int s, int told, int p) {
        if (judge(s, told, p) < -1) return judge(s, told, p);
        int bits = 0, was = law;
        for (law = 0; law < texts.size(); law++) if (judge(s, told, p) == -1) bits += 1 << law;
        law = was;
        return bits;
    }

    int film(int s, int told, int p) {
        if (told < 0 || told > 3 || s == told) return -2;
        if (badDoors(s) != 0) return badDoors(s);
        if (who(p) == null) return -5;
        Person one = who(p).copy();
        Row made = new Row();
        made.cells = new int[rows[s].cells.length];
        for (int i = 0; i < made.cells.length; i++) {
            tried(one, rows[s].cells[i]);
            made.cells[i] = one.luck;
        }
        rows[told] = made;
        return made.cells.length;
    }

    Person strolled(int seed, int p, int n) {
        Person one = who(p).copy();
        long lot = seed + 1;
        for (int i = 0; i < n && !doors.isEmpty(); i++) {
            lot = Math.floorMod(lot * 48271L, 2147483647L);
            tried(one, (int) Math.floorMod(lot, (long) doors.size()));
        }
        return one;
    }

    int drawn(int seed, int p, int n, int what) {
        if (who(p) == null) return -5;
        if (seed < 0 || seed > 99999 || n < 0 || n > 60 || what < 0 || what > 1) return -7;
        Person one = strolled(seed, p, n);
        return what == 0 ? one.luck : one.house;
    }

    long odds(int seed, int seeds, int p, int least, int part) {
        if (seed < 0 || seed > 99999 || seeds < 1 || seeds > 40 || who(p) == null) return NO;
        if (least < 0 || least > 99 || part < 0 || part > 1) return NO;
        int many = 0;
        for (int i = 0; i < seeds; i++) if (strolled(seed + i, p, 20).luck >= least) many++;
        return fraction(many, seeds, part);
    }

    static Door copyOf(Door d) {
        Door c = new Door();
        c.one = d.one;
        c.other = d.other;
        c.bricked = d.bricked;
        return c;
    }

    int image() {
        imageDoors = new ArrayList<>();
        imagePeople = new ArrayList<>();
        for (Door d : doors) imageDoors.add(copyOf(d));
        for (Person p : people) imagePeople.add(p.copy());
        imageDay = day;
        imageLaw = law;
        return people.size();
    }

    int back() {
        if (imageDoors == null) return -3;
        doors.clear();
        people.clear();
        for (Door d : imageDoors) doors.add(copyOf(d));
        for (Person p : imagePeople) people.add(p.copy());
        day = imageDay;
        law = imageLaw;
        return people.size();
    }

    int sheet(int s, int sort, int n) {
        if (s < 0 || s > 3 || sort < -1 || sort > 2) return -2;
        if (sort == -1) {
            rows[s] = null;
            return 1;
        }
        if (n > 40) return -2;
        if (n < 0) return -14;
        rows[s] = new Row();
        rows[s].sort = sort;
        rows[s].cells = new int[n];
        return 1;
    }

    int cell(int s, int i, int v) {
        if (s < 0 || s > 3) return -2;
        if (rows[s] == null) return -11;
        if (i < 0 || i >= rows[s].cells.length) return -12;
        rows[s].cells[i] = rows[s].sort == 0 ? (byte) v : rows[s].sort == 1 ? (short) v : v;
        return 1;
    }

    int copy(int s, int i, int other, int j, int n) {
        if (s < 0 || s > 3 || other < 0 || other > 3) return -2;
        if (rows[s] == null || rows[other] == null) return -11;
        if (rows[s].sort != rows[other].sort) return -13;
        int[] from = rows[s].cells.clone();
        int[] to = rows[other].cells;
        if (i < 0 || j < 0 || n < 0 || (long) i + n > from.length || (long) j + n > to.length) return -12;
        for (int k = 0; k < n; k++) to[j + k] = from[i + k];
        return n;
    }

    int peopleBy(int s, int sort, int from, int n) {
        if (s < 0 || s > 3 || sort < 0 || sort > 2 || n < 0 || n > 6) return -2;
        if (rows[s] == null) return -11;
        if (rows[s].sort != sort) return -13;
        int came = 0;
        for (long at = from; at < (long) from + 2 * n; at += 2) {
            if (at < 0 || at + 1 >= rows[s].cells.length) return -12;
            if (person(rows[s].cells[(int) at], rows[s].cells[(int) at + 1]) >= 0) came++;
        }
        return came;
    }

    int taken(int i, int kind) {
        if (kind < 0 || kind > 6) return -2;
        if (i < 0 || i > 17) return -12;
        if (i < 6) {
            if (i >= people.size()) return -11;
            int[][] are = {{0}, {0, 1}, {0, 2}, {0, 1, 3}, {0, 2, 4}, {0, 5}};
            for (int k : are[people.get(i).kind]) if (k == kind) return i;
            return -13;
        }
        if (!isDoor(i - 6)) return -11;
        if (kind != 6) return -13;
        return doors.get(i - 6).bricked ? 1 : 0;
    }
}
