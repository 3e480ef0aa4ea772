/** A town of houses and doors, and people whose luck ends at one door each. */
public final class DoorOfLuck {
    public static final int NONE = -1, BAD = -2, STATE = -3, FULL = -4;
    public static final long NO = -4611686018427387904L;

    // Refusals that the document tells by number alone.
    private static final int NONE_SUCH = -5, NO_DOOR = -6, NOT_AS_TOLD = -7;
    private static final int MISSING = -11, OUTSIDE = -12, UNLIKE = -13, BELOW_ZERO = -14;
    private static final int NOTHING_SAID = -1000, FAULT = -100, FINE = 0;

    private static final int HOUSES = 8, DOORS = 12, PEOPLE = 6, KINDS = 6, MORES = 10;
    private static final int LUCKS = 100, MOST_LUCK = 99, LAST_DAY = 999;
    private static final int TEXTS = 6, TAPE = 160, SHEETS = 4, LONGEST_SHEET = 40;
    private static final int SEEDS = 100000, MOST_SEEDS = 40, LONGEST_STROLL = 60, STROLL_OF_ODDS = 20;

    // The three parts of a text.
    private static final int GAINS = 0, DARES = 1, LEAVES = 2, PARTS = 3;

    // What a text is made of once it is read: numbers are themselves (0 and up), all else is below 0.
    private static final int LUCK = -1, DOOR = -2, HOUSE = -3, DAY = -4, OPENED = -5, MORE = -6;
    private static final int OR = -7, AND = -8, NOT = -9, LESS = -10, EQUAL = -11;
    private static final int PLUS = -12, MINUS = -13, TIMES = -14, NEGATE = -15;

    // Tokens: a sign is its own byte, a name and or, and, not are as above, the others are these.
    private static final int NUMBER = 1, END_OF_TEXT = 2, WRONG = 3, FIRST_KEY = 4;

    private final Town town = new Town();
    private final Tape tape = new Tape();
    private final Soul[] people = new Soul[PEOPLE];
    private int peopleCount;
    // One of each kind, for what is only thought.
    private final Soul[] thoughts = new Soul[KINDS];
    private final Sheet[] sheets = new Sheet[SHEETS];
    private final Image kept = new Image();

    public DoorOfLuck() {
        for (int kind = 0; kind < thoughts.length; kind++) {
            thoughts[kind] = soulOf(kind);
        }
        for (int s = 0; s < sheets.length; s++) {
            sheets[s] = new Sheet();
        }
    }

    // ---- the town, the law, people

    public int count(int what) {
        switch (what) {
            case 0: return peopleCount;
            case 1: return town.doors;
            case 2: return town.day;
            case 3: return town.textCount;
            case 4: return town.law;
            case 5: return tape.size;
            default: return BAD;
        }
    }

    public int dawn(int v) {
        if (v < 0 || v > LAST_DAY) return BAD;
        int was = town.day;
        town.day = v;
        return was;
    }

    public int door(int one, int other) {
        if (!isHouse(one) || !isHouse(other) || one == other) return BAD;
        return town.hang(one, other) ? town.doors - 1 : FULL;
    }

    public int brick(int d, int is) {
        if (!town.isDoor(d)) return NONE_SUCH;
        if (is != 0 && is != 1) return NOT_AS_TOLD;
        int was = bit(town.bricked, d);
        town.bricked = town.bricked & ~(1 << d) | is << d;
        return was;
    }

    public int hung(int d, int what) {
        if (!town.isDoor(d)) return NONE_SUCH;
        switch (what) {
            case 0: return town.firstHouse(d);
            case 1: return town.otherHouse(d);
            case 2: return bit(town.bricked, d);
            case 3: return endOf(d);
            case 4: return openersOf(d);
            default: return NOT_AS_TOLD;
        }
    }

    public int feed(int n, int a, int b, int c, int d, int e) {
        if (n < 1 || n > 5) return BAD;
        if (!isByte(a) || !isByte(b) || !isByte(c) || !isByte(d) || !isByte(e)) return BAD;
        if (tape.size + n > TAPE) return FULL;
        tape.add(a);
        if (n > 1) tape.add(b);
        if (n > 2) tape.add(c);
        if (n > 3) tape.add(d);
        if (n > 4) tape.add(e);
        return tape.size;
    }

    public int text() {
        Text made = town.nextText();
        if (made == null) return FULL;
        int fault = tape.readInto(made);
        tape.size = 0;
        if (fault >= 0) return FAULT - fault;
        town.textCount++;
        return town.textCount - 1;
    }

    public int force(int t) {
        if (t < 0 || t >= town.textCount) return BAD;
        int was = town.law;
        town.law = t;
        return was;
    }

    public int asks(int part, int p, int d) {
        Soul one = personAt(p);
        if (part < 0 || part >= PARTS || one == null || !town.isDoor(d)) return NOTHING_SAID;
        return town.said(part, one, d);
    }

    public int person(int kindMore, int houseLuck) {
        if (kindMore < 0 || kindMore >= KINDS * MORES) return BAD;
        if (houseLuck < 0 || houseLuck >= HOUSES * LUCKS) return BAD;
        if (peopleCount >= people.length) return FULL;
        Soul one = soulOf(kindMore / MORES);
        one.more = kindMore % MORES;
        one.house = houseLuck / LUCKS;
        one.luck = houseLuck % LUCKS;
        people[peopleCount] = one;
        peopleCount++;
        return peopleCount - 1;
    }

    public int put(int p, int what, int v) {
        Soul one = personAt(p);
        if (one == null) return NONE_SUCH;
        int was;
        if (what == 0 && isHouse(v)) {
            was = one.house;
            one.house = v;
        } else if (what == 1 && isLuck(v)) {
            was = one.luck;
            one.luck = v;
        } else if (what == 2 && (v == NONE || town.isDoor(v))) {
            was = one.end;
            one.end = v;
        } else {
            was = NOT_AS_TOLD;
        }
        return was;
    }

    public int told(int p, int what) {
        Soul one = personAt(p);
        if (one == null) return NONE_SUCH;
        switch (what) {
            case 0: return one.house;
            case 1: return one.luck;
            case 2: return one.end;
            case 3: return one.kind;
            case 4: return one.more;
            case 5: return one.opened;
            case 6: return one.luck == 0 ? one.opened : town.allDoors() & ~one.opened;
            case 7: return town.reached(one.house, town.safeDoors(one));
            default: return NOT_AS_TOLD;
        }
    }

    // ---- opening

    public int open(int p, int d) {
        Soul one = personAt(p);
        if (one == null) return NONE_SUCH;
        if (!town.isDoor(d)) return NO_DOOR;
        return town.tries(one, d) ? one.luck : STATE;
    }

    public int after(int p, int q, int d) {
        Soul one = personAt(p);
        Soul another = personAt(q);
        if (one == null || another == null || p == q) return NONE_SUCH;
        if (!town.isDoor(d)) return NO_DOOR;
        if (one.house != another.house || !town.tries(one, d)) return STATE;
        another.house = one.house;
        return one.luck;
    }

    public int safe(int p, int d) {
        Soul one = personAt(p);
        if (one == null) return NONE_SUCH;
        if (!town.isDoor(d)) return NO_DOOR;
        return bit(town.safeDoors(one), d);
    }

    // ---- ways

    public int way(int p, int house, int what) {
        Soul one = personAt(p);
        if (one == null) return NONE_SUCH;
        if (!isHouse(house) || what != 0 && what != 1) return NOT_AS_TOLD;
        int by = town.safeDoors(one);
        return what == 0 ? town.away(one.house, house, by) : town.wayNumber(one.house, house, by);
    }

    public int together(int some, int house) {
        if (some <= 0 || some >= 1 << peopleCount || !isHouse(house)) return BAD;
        int from = houseOfAll(some);
        if (from < 0) return STATE;
        int by = 0;
        for (int p = 0; p < peopleCount; p++) {
            Soul one = personAt(p);
            if (one != null && bit(some, p) == 1) by |= town.safeDoors(one);
        }
        return town.away(from, house, by);
    }

    public int friend(int p, int what) {
        Soul one = personAt(p);
        if (one == null) return NONE_SUCH;
        if (what != 0 && what != 1) return NOT_AS_TOLD;
        int own = town.safeDoors(one);
        int best = NONE;
        int most = Integer.bitCount(town.reached(one.house, own));
        for (int q = 0; q < peopleCount; q++) {
            Soul other = personAt(q);
            if (other == null || q == p) continue;
            int houses = Integer.bitCount(town.reached(one.house, own | town.safeDoors(other)));
            if (houses > most) {
                best = q;
                most = houses;
            }
        }
        return what == 0 ? best : most;
    }

    // ---- what is best

    public int worst(int what) {
        if (what != 0 && what != 1) return BAD;
        int worst = NONE;
        int most = 0;
        for (int d = 0; d < town.doors; d++) {
            int ends = Integer.bitCount(endOf(d));
            if (ends > most) {
                worst = d;
                most = ends;
            }
        }
        return what == 0 ? worst : most;
    }

    public int mason(int what) {
        if (what != 0 && what != 1) return BAD;
        int best = NONE;
        int most = housesOfEach();
        int bricked = town.bricked;
        for (int d = 0; d < town.doors; d++) {
            town.bricked = bricked ^ 1 << d;
            int houses = housesOfEach();
            if (houses > most) {
                best = d;
                most = houses;
            }
        }
        town.bricked = bricked;
        return what == 0 ? best : most;
    }

    public int watch(int p, int what) {
        Soul one = personAt(p);
        if (one == null) return NONE_SUCH;
        if (what != 0 && what != 1) return NOT_AS_TOLD;
        int watched = fewestToWatch(one);
        return what == 0 ? watched : Integer.bitCount(watched);
    }

    public int doomed() {
        int bits = 0;
        for (int p = 0; p < peopleCount; p++) {
            Soul one = personAt(p);
            if (one != null && town.inDanger(one, town.daredDoors(one))) bits |= 1 << p;
        }
        return bits;
    }

    public long share(int part) {
        if (part != 0 && part != 1 || peopleCount < 1) return NO;
        int sum = 0;
        for (int p = 0; p < peopleCount; p++) {
            Soul one = personAt(p);
            if (one != null) sum += one.luck;
        }
        return inLowestTerms(sum, MOST_LUCK * peopleCount, part);
    }

    // ---- walks

    public int walk(int s, int p, int what) {
        int refused = refusedDoors(s);
        if (refused != FINE) return refused;
        Soul one = personAt(p);
        if (one == null) return NONE_SUCH;
        if (what < 0 || what > 3) return NOT_AS_TOLD;
        Soul thought = thoughtOf(one, one.kind);
        int opens = 0;
        int endAt = NONE;
        for (int i = 0; i < sizeOf(s); i++) {
            int d = cellOf(s, i);
            if (!town.tries(thought, d)) continue;
            opens++;
            if (d == thought.end && endAt == NONE) endAt = opens;
        }
        switch (what) {
            case 0: return thought.luck;
            case 1: return thought.house;
            case 2: return opens;
            default: return endAt;
        }
    }

    public int goes(int s, int p) {
        int refused = refusedDoors(s);
        if (refused != FINE) return refused;
        Soul one = personAt(p);
        if (one == null) return NONE_SUCH;
        if (town.day >= LAST_DAY) return STATE;
        for (int i = 0; i < sizeOf(s); i++) {
            town.tries(one, cellOf(s, i));
        }
        town.day++;
        return one.luck;
    }

    // ---- told walks

    public int judge(int s, int told, int p) {
        int refused = refusedTold(s, told);
        if (refused != FINE) return refused;
        Soul one = personAt(p);
        if (one == null) return NONE_SUCH;
        return firstOtherwise(s, told, thoughtOf(one, one.kind));
    }

    public int kinds(int s, int told, int p, int sort) {
        int refused = refusedTold(s, told);
        if (refused != FINE) return refused;
        Soul one = personAt(p);
        if (one == null) return NONE_SUCH;
        if (sort != 0 && sort != 1) return NOT_AS_TOLD;
        int bits = 0;
        for (int v = 0; v < (sort == 0 ? KINDS : MORES); v++) {
            Soul thought = thoughtOf(one, sort == 0 ? v : one.kind);
            if (sort == 1) thought.more = v;
            if (firstOtherwise(s, told, thought) == NONE) bits |= 1 << v;
        }
        return bits;
    }

    public int states(int s, int told, int p, int what) {
        int refused = refusedTold(s, told);
        if (refused != FINE) return refused;
        Soul one = personAt(p);
        if (one == null) return NONE_SUCH;
        if (what != 0 && what != 2) return NOT_AS_TOLD;
        int bits = 0;
        // Of ends the one behind the last possible door stands for none.
        for (int v = 0; v < (what == 0 ? HOUSES : DOORS + 1); v++) {
            if (what == 2 && v != DOORS && !town.isDoor(v)) continue;
            Soul thought = thoughtOf(one, one.kind);
            if (what == 0) thought.house = v;
            else thought.end = v == DOORS ? NONE : v;
            if (firstOtherwise(s, told, thought) == NONE) bits |= 1 << v;
        }
        return bits;
    }

    public int lucks(int s, int told, int p, int what) {
        int refused = refusedTold(s, told);
        if (refused != FINE) return refused;
        Soul one = personAt(p);
        if (one == null) return NONE_SUCH;
        if (what != 0 && what != 1) return NOT_AS_TOLD;
        int least = NONE;
        int many = 0;
        for (int luck = 0; luck < LUCKS; luck++) {
            Soul thought = thoughtOf(one, one.kind);
            thought.luck = luck;
            if (firstOtherwise(s, told, thought) != NONE) continue;
            if (least == NONE) least = luck;
            many++;
        }
        return what == 0 ? many : least;
    }

    public int whose(int s, int told) {
        int refused = refusedTold(s, told);
        if (refused != FINE) return refused;
        int bits = 0;
        for (int p = 0; p < peopleCount; p++) {
            Soul one = personAt(p);
            if (one == null) continue;
            if (firstOtherwise(s, told, thoughtOf(one, one.kind)) == NONE) bits |= 1 << p;
        }
        return bits;
    }

    public int laws(int s, int told, int p) {
        int refused = refusedTold(s, told);
        if (refused != FINE) return refused;
        Soul one = personAt(p);
        if (one == null) return NONE_SUCH;
        int bits = 0;
        int law = town.law;
        for (int t = 0; t < town.textCount; t++) {
            town.law = t;
            if (firstOtherwise(s, told, thoughtOf(one, one.kind)) == NONE) bits |= 1 << t;
        }
        town.law = law;
        return bits;
    }

    public int film(int s, int told, int p) {
        Sheet filmed = sheetAt(told);
        if (filmed == null || s == told) return BAD;
        int refused = refusedDoors(s);
        if (refused != FINE) return refused;
        Soul one = personAt(p);
        if (one == null) return NONE_SUCH;
        Soul thought = thoughtOf(one, one.kind);
        int size = sizeOf(s);
        filmed.become(Sheet.BYTES, size);
        for (int i = 0; i < size; i++) {
            town.tries(thought, cellOf(s, i));
            filmed.write(i, thought.luck);
        }
        return size;
    }

    // ---- strolls by lots

    public int drawn(int seed, int p, int n, int what) {
        Soul one = personAt(p);
        if (one == null) return NONE_SUCH;
        if (!isSeed(seed) || n < 0 || n > LONGEST_STROLL || what != 0 && what != 1) return NOT_AS_TOLD;
        Soul thought = thoughtOf(one, one.kind);
        stroll(thought, seed, n);
        return what == 0 ? thought.luck : thought.house;
    }

    public long odds(int seed, int seeds, int p, int least, int part) {
        Soul one = personAt(p);
        if (one == null || !isSeed(seed) || seeds < 1 || seeds > MOST_SEEDS) return NO;
        if (!isLuck(least) || part != 0 && part != 1) return NO;
        int many = 0;
        for (int i = 0; i < seeds; i++) {
            Soul thought = thoughtOf(one, one.kind);
            stroll(thought, seed + i, STROLL_OF_ODDS);
            if (thought.luck >= least) many++;
        }
        return inLowestTerms(many, seeds, part);
    }

    public int image() {
        kept.there = true;
        kept.doors = town.doors;
        kept.bricked = town.bricked;
        kept.day = town.day;
        kept.law = town.law;
        kept.peopleCount = peopleCount;
        for (int p = 0; p < peopleCount; p++) {
            Soul one = personAt(p);
            Soul then = kept.personAt(p);
            if (one != null && then != null) then.become(one);
        }
        return peopleCount;
    }

    public int back() {
        if (!kept.there) return STATE;
        // Doors and people only ever come behind those that the image has, so how many there were is enough.
        town.doors = kept.doors;
        town.bricked = kept.bricked;
        town.day = kept.day;
        town.law = kept.law;
        peopleCount = kept.peopleCount;
        for (int p = 0; p < peopleCount; p++) {
            Soul one = personAt(p);
            Soul then = kept.personAt(p);
            if (one != null && then != null) one.become(then);
        }
        return peopleCount;
    }

    // ---- the host

    public int sheet(int s, int sort, int n) {
        Sheet made = sheetAt(s);
        if (made == null || sort < Sheet.NO_SORT || sort > Sheet.INTS) return BAD;
        if (sort == Sheet.NO_SORT) {
            made.become(sort, 0);
            return 1;
        }
        if (n > LONGEST_SHEET) return BAD;
        if (n < 0) return BELOW_ZERO;
        made.become(sort, n);
        return 1;
    }

    public int cell(int s, int i, int v) {
        Sheet written = sheetAt(s);
        if (written == null) return BAD;
        if (written.sort == Sheet.NO_SORT) return MISSING;
        return written.write(i, v) ? 1 : OUTSIDE;
    }

    public int copy(int s, int i, int other, int j, int n) {
        Sheet from = sheetAt(s);
        Sheet to = sheetAt(other);
        if (from == null || to == null) return BAD;
        if (from.sort == Sheet.NO_SORT || to.sort == Sheet.NO_SORT) return MISSING;
        if (from.sort != to.sort) return UNLIKE;
        if (!from.holds(i, n) || !to.holds(j, n)) return OUTSIDE;
        System.arraycopy(from.row, i, to.row, j, n);
        return n;
    }

    public int peopleBy(int s, int sort, int from, int n) {
        Sheet read = sheetAt(s);
        if (read == null || sort <= Sheet.NO_SORT || sort > Sheet.INTS || n < 0 || n > PEOPLE) return BAD;
        if (read.sort == Sheet.NO_SORT) return MISSING;
        if (read.sort != sort) return UNLIKE;
        int came = 0;
        for (int k = 0; k < n; k++) {
            if (!read.holds(from, 2 * k + 2)) return OUTSIDE;
            if (person(read.at(from + 2 * k), read.at(from + 2 * k + 1)) >= 0) came++;
        }
        return came;
    }

    public int taken(int i, int kind) {
        if (kind < 0 || kind > KINDS) return BAD;
        if (i < 0 || i >= PEOPLE + DOORS) return OUTSIDE;
        if (i >= PEOPLE) {
            int d = i - PEOPLE;
            if (!town.isDoor(d)) return MISSING;
            return kind == KINDS ? bit(town.bricked, d) : UNLIKE;
        }
        Soul one = personAt(i);
        if (one == null) return MISSING;
        return isOfKind(one, kind) ? i : UNLIKE;
    }

    // ---- what is asked of numbers

    private static boolean isHouse(int v) {
        return v >= 0 && v < HOUSES;
    }

    private static boolean isLuck(int v) {
        return v >= 0 && v < LUCKS;
    }

    private static boolean isByte(int v) {
        return v >= 0 && v <= 255;
    }

    private static boolean isSeed(int v) {
        return v >= 0 && v < SEEDS;
    }

    private static int bit(int bits, int i) {
        return bits >> i & 1;
    }

    private static int bounded(int v, int least, int most) {
        return Math.max(least, Math.min(most, v));
    }

    private static long inLowestTerms(int above, int below, int part) {
        int a = above;
        int b = below;
        // Euclid's way: b is halved at the latest every second time.
        for (int i = 0; i < 64 && b != 0; i++) {
            int rest = a % b;
            a = b;
            b = rest;
        }
        if (a == 0) return NO;
        return part == 0 ? above / a : below / a;
    }

    // ---- people

    private static Soul soulOf(int kind) {
        switch (kind) {
            case 1: return new Footman(kind);
            case 2: return new Lady(kind);
            case 3: return new Butler(kind);
            case 4: return new Widow(kind);
            case 5: return new Gypsy(kind);
            default: return new Soul(0);
        }
    }

    private static boolean isOfKind(Soul one, int kind) {
        switch (kind) {
            case 0: return true;
            case 1: return one instanceof Footman;
            case 2: return one instanceof Lady;
            case 3: return one instanceof Butler;
            case 4: return one instanceof Widow;
            case 5: return one instanceof Gypsy;
            default: return false;
        }
    }

    private Soul personAt(int p) {
        return p >= 0 && p < peopleCount && p < people.length ? people[p] : null;
    }

    private Soul thoughtOf(Soul one, int kind) {
        Soul thought = kind >= 0 && kind < thoughts.length ? thoughts[kind] : null;
        if (thought == null) thought = soulOf(kind);
        thought.become(one);
        return thought;
    }

    private int endOf(int d) {
        int bits = 0;
        for (int p = 0; p < peopleCount; p++) {
            Soul one = personAt(p);
            if (one != null && one.end == d) bits |= 1 << p;
        }
        return bits;
    }

    private int openersOf(int d) {
        int bits = 0;
        for (int p = 0; p < peopleCount; p++) {
            Soul one = personAt(p);
            if (one != null && bit(one.opened, d) == 1) bits |= 1 << p;
        }
        return bits;
    }

    private int houseOfAll(int some) {
        int house = NONE;
        for (int p = 0; p < peopleCount; p++) {
            Soul one = personAt(p);
            if (one == null || bit(some, p) == 0) continue;
            if (house != NONE && house != one.house) return NONE;
            house = one.house;
        }
        return house;
    }

    private int housesOfEach() {
        int sum = 0;
        for (int p = 0; p < peopleCount; p++) {
            Soul one = personAt(p);
            if (one != null) sum += Integer.bitCount(town.reached(one.house, town.safeDoors(one)));
        }
        return sum;
    }

    private int fewestToWatch(Soul one) {
        int dared = town.daredDoors(one);
        if (!town.inDanger(one, dared)) return 0;
        // To watch one's end alone is always enough, so never more than one door is needed.
        for (int d = 0; d < town.doors; d++) {
            if (!town.inDanger(one, dared & ~(1 << d))) return 1 << d;
        }
        return 0;
    }

    private void stroll(Soul one, int seed, int n) {
        int doors = town.doors;
        if (doors < 1) return;
        long lot = seed + 1L;
        for (int i = 0; i < n; i++) {
            lot = lot * 48271L % 2147483647L;
            town.tries(one, (int) (lot % doors));
        }
    }

    // ---- told walks

    private Sheet sheetAt(int s) {
        return s >= 0 && s < sheets.length ? sheets[s] : null;
    }

    private int sizeOf(int s) {
        Sheet read = sheetAt(s);
        return read == null ? 0 : read.size;
    }

    private int cellOf(int s, int i) {
        Sheet read = sheetAt(s);
        return read == null ? NONE : read.at(i);
    }

    private int refusedDoors(int s) {
        Sheet read = sheetAt(s);
        if (read == null) return BAD;
        if (read.sort == Sheet.NO_SORT) return MISSING;
        for (int i = 0; i < read.size; i++) {
            if (!town.isDoor(read.at(i))) return BAD;
        }
        return FINE;
    }

    private int refusedTold(int s, int told) {
        Sheet lucks = sheetAt(told);
        if (lucks == null) return BAD;
        int refused = refusedDoors(s);
        if (refused != FINE) return refused;
        if (lucks.sort == Sheet.NO_SORT) return MISSING;
        return lucks.size > sizeOf(s) ? BAD : FINE;
    }

    private int firstOtherwise(int s, int told, Soul thought) {
        for (int i = 0; i < sizeOf(told); i++) {
            town.tries(thought, cellOf(s, i));
            if (thought.luck != cellOf(told, i)) return i;
        }
        return NONE;
    }

    /** One of the people; the kinds below tell only what is otherwise with them. */
    private static class Soul {
        final int kind;
        int more;
        int house;
        int luck;
        int end = NONE;
        int opened;

        Soul(int kind) {
            this.kind = kind;
        }

        final void become(Soul other) {
            more = other.more;
            house = other.house;
            luck = other.luck;
            end = other.end;
            opened = other.opened;
        }

        int gainBy(int said) {
            return said;
        }

        boolean daresBy(boolean said, int d, int day) {
            return said;
        }

        int leaveBy(int said) {
            return said;
        }
    }

    private static class Footman extends Soul {
        Footman(int kind) {
            super(kind);
        }

        boolean daresBy(boolean said, int d, int day) {
            return true;
        }

        int gainBy(int said) {
            return said + more;
        }
    }

    private static class Lady extends Soul {
        Lady(int kind) {
            super(kind);
        }

        boolean daresBy(boolean said, int d, int day) {
            return d != end && super.daresBy(said, d, day);
        }

        int gainBy(int said) {
            return said / 2;
        }
    }

    private static final class Butler extends Footman {
        Butler(int kind) {
            super(kind);
        }

        int leaveBy(int said) {
            return super.leaveBy(said) + luck / 2;
        }

        boolean daresBy(boolean said, int d, int day) {
            return day % 7 != more && super.daresBy(said, d, day);
        }
    }

    private static final class Widow extends Lady {
        Widow(int kind) {
            super(kind);
        }

        int gainBy(int said) {
            int asLady = super.gainBy(said);
            return luck < 50 ? 2 * asLady + more : asLady;
        }

        int leaveBy(int said) {
            return Math.max(more, super.leaveBy(said));
        }
    }

    private static final class Gypsy extends Soul {
        Gypsy(int kind) {
            super(kind);
        }

        boolean daresBy(boolean said, int d, int day) {
            return d != end;
        }

        int gainBy(int said) {
            return 0;
        }
    }

    /** The doors, the day and the texts: all by which people open. */
    private static final class Town {
        private final int[] first = new int[DOORS];
        private final int[] second = new int[DOORS];
        int doors;
        int bricked;
        int day;
        private final Text[] texts = new Text[TEXTS];
        int textCount = 1;
        int law;
        // The houses that can be reached by so many doors or fewer.
        private final int[] within = new int[HOUSES];

        Town() {
            for (int t = 0; t < texts.length; t++) {
                texts[t] = new Text();
            }
        }

        boolean isDoor(int d) {
            return d >= 0 && d < doors && d < DOORS;
        }

        boolean hang(int one, int other) {
            if (doors < 0 || doors >= first.length || doors >= second.length) return false;
            first[doors] = one;
            second[doors] = other;
            doors++;
            return true;
        }

        int firstHouse(int d) {
            return d >= 0 && d < first.length ? first[d] : NONE;
        }

        int otherHouse(int d) {
            return d >= 0 && d < second.length ? second[d] : NONE;
        }

        int allDoors() {
            return (1 << doors) - 1;
        }

        private int sides(int d) {
            return isDoor(d) ? 1 << firstHouse(d) | 1 << otherHouse(d) : 0;
        }

        private int through(int d, int house) {
            return house == firstHouse(d) ? otherHouse(d) : firstHouse(d);
        }

        Text nextText() {
            return textCount >= 0 && textCount < texts.length ? texts[textCount] : null;
        }

        int said(int part, Soul one, int d) {
            Text text = law >= 0 && law < texts.length ? texts[law] : null;
            if (text == null) return 0;
            int value = text.value(part, one, d, day);
            if (part == DARES) return value != 0 ? 1 : 0;
            return bounded(value, part == GAINS ? -MOST_LUCK : 0, MOST_LUCK);
        }

        boolean dares(Soul one, int d) {
            return bit(bricked, d) == 0 && one.daresBy(said(DARES, one, d) == 1, d, day);
        }

        // One opens the door, if it is one's house's and one dares: whether one did.
        boolean tries(Soul one, int d) {
            if (bit(sides(d), one.house) == 0 || !dares(one, d)) return false;
            int luck = d == one.end
                    ? one.leaveBy(said(LEAVES, one, d))
                    : one.luck + one.gainBy(said(GAINS, one, d));
            one.luck = bounded(luck, 0, MOST_LUCK);
            one.opened |= 1 << d;
            one.house = through(d, one.house);
            return true;
        }

        int daredDoors(Soul one) {
            int bits = 0;
            for (int d = 0; d < doors; d++) {
                if (dares(one, d)) bits |= 1 << d;
            }
            return bits;
        }

        int safeDoors(Soul one) {
            int bits = 0;
            for (int d = 0; d < doors; d++) {
                if (d != one.end && dares(one, d)) bits |= 1 << d;
            }
            return bits;
        }

        boolean inDanger(Soul one, int by) {
            if (!isDoor(one.end) || bit(by, one.end) == 0) return false;
            return (reached(one.house, by) & sides(one.end)) != 0;
        }

        private int oneDoorFurther(int houses, int by) {
            int further = houses;
            for (int d = 0; d < doors; d++) {
                if (bit(by, d) == 1 && (houses & sides(d)) != 0) further |= sides(d);
            }
            return further;
        }

        int reached(int from, int by) {
            int houses = 1 << from;
            for (int k = 1; k < HOUSES; k++) {
                houses = oneDoorFurther(houses, by);
            }
            return houses;
        }

        // How many doors a house is away, or -1.
        int away(int from, int house, int by) {
            int houses = 1 << from;
            for (int k = 0; k < within.length; k++) {
                within[k] = houses;
                if (bit(houses, house) == 1) return k;
                houses = oneDoorFurther(houses, by);
            }
            return NONE;
        }

        int wayNumber(int from, int house, int by) {
            int at = house;
            int number = 0;
            int weight = 1;
            int away = away(from, house, by);
            if (away < 0) return NONE;
            for (int k = away - 1; k >= 0; k--) {
                int d = lastDoor(at, by, k);
                number += weight * (d + 1);
                weight *= 17;
                at = through(d, at);
            }
            return number;
        }

        // The least door to a house from one that is so many doors away.
        private int lastDoor(int house, int by, int away) {
            int nearer = away >= 0 && away < within.length ? within[away] : 0;
            for (int d = 0; d < doors; d++) {
                if (bit(by, d) == 1 && bit(sides(d), house) == 1 && bit(nearer, through(d, house)) == 1) return d;
            }
            return NONE;
        }
    }

    /** What a text says, as steps to reckon one behind the other: its operands first, then what is done to them. */
    private static final class Text {
        // Five things open at most, and five operands that wait in each, need no more than this.
        private static final int STACK = 40;
        private final int[] steps = new int[TAPE];
        private int size;
        private final int[] ends = new int[PARTS];
        private final int[] stack = new int[STACK];

        /** The text that is the law at first. */
        Text() {
            steps[0] = 3;
            steps[1] = 1;
            steps[2] = 0;
            size = 3;
            ends[0] = 1;
            ends[1] = 2;
            ends[2] = 3;
        }

        void clear() {
            size = 0;
        }

        void add(int step) {
            if (size < 0 || size >= steps.length) return;
            steps[size] = step;
            size++;
        }

        void endPart(int part) {
            if (part >= 0 && part < ends.length) ends[part] = size;
        }

        private int endOfPart(int part) {
            return part >= 0 && part < ends.length ? ends[part] : 0;
        }

        int value(int part, Soul one, int d, int day) {
            int height = 0;
            int to = Math.min(endOfPart(part), steps.length);
            for (int i = endOfPart(part - 1); i >= 0 && i < to; i++) {
                int step = steps[i];
                height -= operands(step);
                if (height < 0 || height + 1 >= stack.length) return 0;
                int result = step;
                if (step < MORE) result = reckoned(step, stack[height], stack[height + 1]);
                else if (step < 0) result = named(step, one, d, day);
                stack[height] = result;
                height++;
            }
            return stack[0];
        }

        private static int operands(int step) {
            if (step >= MORE) return 0;
            return step == NOT || step == NEGATE ? 1 : 2;
        }

        private static int named(int name, Soul one, int d, int day) {
            switch (name) {
                case LUCK: return one.luck;
                case DOOR: return d;
                case HOUSE: return one.house;
                case DAY: return day;
                case OPENED: return Integer.bitCount(one.opened);
                default: return one.more;
            }
        }

        private static int reckoned(int step, int a, int b) {
            switch (step) {
                case OR: return a != 0 || b != 0 ? 1 : 0;
                case AND: return a != 0 && b != 0 ? 1 : 0;
                case NOT: return a == 0 ? 1 : 0;
                case LESS: return a < b ? 1 : 0;
                case EQUAL: return a == b ? 1 : 0;
                case PLUS: return a + b;
                case MINUS: return a - b;
                case TIMES: return a * b;
                default: return -a;
            }
        }
    }

    /** The bytes that were fed, and how they are read as a text. */
    private static final class Tape {
        private static final int MOST_OPEN = 5, LONGEST_NUMBER = 4;
        private final int[] bytes = new int[TAPE];
        int size;
        private int ahead;
        private int token;
        private int place;
        private int value;
        private int fault;

        void add(int v) {
            if (size < 0 || size >= bytes.length) return;
            bytes[size] = v;
            size++;
        }

        private int byteAt(int i) {
            return i >= 0 && i < size && i < bytes.length ? bytes[i] : 0;
        }

        // The place of the fault, or -1.
        int readInto(Text made) {
            ahead = 0;
            fault = NONE;
            made.clear();
            next();
            for (int part = 0; part < PARTS; part++) {
                take(FIRST_KEY + part);
                readOr(made, 0);
                take(';');
                made.endPart(part);
            }
            take(END_OF_TEXT);
            return fault;
        }

        private void readOr(Text made, int open) {
            readAnd(made, open);
            for (int i = 0; i < TAPE && token == OR; i++) {
                next();
                readAnd(made, open);
                made.add(OR);
            }
        }

        private void readAnd(Text made, int open) {
            readNot(made, open);
            for (int i = 0; i < TAPE && token == AND; i++) {
                next();
                readNot(made, open);
                made.add(AND);
            }
        }

        private void readNot(Text made, int open) {
            if (token == NOT) {
                if (!mayOpen(open)) return;
                readNot(made, open + 1);
                made.add(NOT);
                return;
            }
            readSum(made, open);
            int sign = token;
            if (sign != '<' && sign != '=') return;
            next();
            readSum(made, open);
            made.add(sign == '<' ? LESS : EQUAL);
        }

        private void readSum(Text made, int open) {
            readTerm(made, open);
            for (int i = 0; i < TAPE && (token == '+' || token == '-'); i++) {
                int sign = token;
                next();
                readTerm(made, open);
                made.add(sign == '+' ? PLUS : MINUS);
            }
        }

        private void readTerm(Text made, int open) {
            readOne(made, open);
            for (int i = 0; i < TAPE && token == '*'; i++) {
                next();
                readOne(made, open);
                made.add(TIMES);
            }
        }

        private void readOne(Text made, int open) {
            if (token == NUMBER) {
                made.add(value);
                next();
            } else if (token <= LUCK && token >= MORE) {
                made.add(token);
                next();
            } else if (token == '-') {
                if (!mayOpen(open)) return;
                readOne(made, open + 1);
                made.add(NEGATE);
            } else if (token == '(') {
                if (!mayOpen(open)) return;
                readOr(made, open + 1);
                take(')');
            } else {
                fail();
            }
        }

        // Goes on behind what opens, unless so many are open that it can't stand there.
        private boolean mayOpen(int open) {
            if (open >= MOST_OPEN) {
                fail();
                return false;
            }
            next();
            return true;
        }

        private void take(int due) {
            if (token == due) next();
            else fail();
        }

        // The first fault alone counts; behind it every token is wrong, so that all reading ends.
        private void fail() {
            if (fault == NONE) fault = place;
            token = WRONG;
        }

        private void next() {
            if (fault != NONE) return;
            while (ahead < size && isBlank(byteAt(ahead))) ahead++;
            place = ahead;
            if (ahead >= size) {
                token = END_OF_TEXT;
            } else if (isLetter(byteAt(ahead))) {
                token = readWord();
            } else if (isDigit(byteAt(ahead))) {
                token = readNumber();
            } else {
                token = isSign(byteAt(ahead)) ? byteAt(ahead) : WRONG;
                ahead++;
            }
        }

        private int readNumber() {
            value = 0;
            while (ahead < size && isDigit(byteAt(ahead))) {
                // Wraps in a number that is too long, which nobody reads.
                value = value * 10 + byteAt(ahead) - '0';
                ahead++;
            }
            return ahead - place > LONGEST_NUMBER ? WRONG : NUMBER;
        }

        private int readWord() {
            while (ahead < size && isLetter(byteAt(ahead))) ahead++;
            if (spells("gains")) return FIRST_KEY + GAINS;
            if (spells("dares")) return FIRST_KEY + DARES;
            if (spells("leaves")) return FIRST_KEY + LEAVES;
            if (spells("or")) return OR;
            if (spells("and")) return AND;
            if (spells("not")) return NOT;
            if (spells("luck")) return LUCK;
            if (spells("door")) return DOOR;
            if (spells("house")) return HOUSE;
            if (spells("day")) return DAY;
            if (spells("opened")) return OPENED;
            if (spells("more")) return MORE;
            return WRONG;
        }

        private boolean spells(String word) {
            if (word.length() != ahead - place) return false;
            for (int i = 0; i < word.length(); i++) {
                if (word.charAt(i) != byteAt(place + i)) return false;
            }
            return true;
        }

        private static boolean isBlank(int b) {
            return b == 32 || b == 10;
        }

        private static boolean isLetter(int b) {
            return b >= 'a' && b <= 'z';
        }

        private static boolean isDigit(int b) {
            return b >= '0' && b <= '9';
        }

        private static boolean isSign(int b) {
            return b == '(' || b == ')' || b == ';' || b == '+' || b == '-' || b == '*' || b == '<' || b == '=';
        }
    }

    /** A row of numbers, or none. */
    private static final class Sheet {
        static final int NO_SORT = -1, BYTES = 0, SHORTS = 1, INTS = 2;
        int sort = NO_SORT;
        int size;
        final int[] row = new int[LONGEST_SHEET];

        void become(int newSort, int newSize) {
            sort = newSort;
            size = bounded(newSize, 0, row.length);
            for (int i = 0; i < row.length; i++) {
                row[i] = 0;
            }
        }

        int at(int i) {
            return i >= 0 && i < size && i < row.length ? row[i] : NONE;
        }

        boolean write(int i, int v) {
            if (i < 0 || i >= size || i >= row.length) return false;
            if (sort == BYTES) row[i] = (byte) v;
            else if (sort == SHORTS) row[i] = (short) v;
            else row[i] = v;
            return true;
        }

        boolean holds(int from, int n) {
            return from >= 0 && n >= 0 && from <= size && n <= size - from;
        }
    }

    /** What back() brings back. */
    private static final class Image {
        boolean there;
        int doors;
        int bricked;
        int day;
        int law;
        int peopleCount;
        private final Soul[] souls = new Soul[PEOPLE];

        Image() {
            for (int p = 0; p < souls.length; p++) {
                souls[p] = new Soul(0);
            }
        }

        Soul personAt(int p) {
            return p >= 0 && p < souls.length ? souls[p] : null;
        }
    }
}
