/** What the tests build with. They extend it, as nothing can be imported from a class without a package. */
class Towns {
    static final int NONE = -1, BAD = -2, STATE = -3, FULL = -4;
    static final int WHO = -5, WHICH_DOOR = -6, VALUE = -7;
    static final int MISSING = -11, OUTSIDE = -12, UNLIKE = -13, BELOW = -14;
    static final long NO = -4611686018427387904L;
    static final int SOUL = 0, FOOTMAN = 10, LADY = 20, BUTLER = 30, WIDOW = 40, GYPSY = 50;
    static final int BYTES = 0, SHORTS = 1, INTS = 2;

    static void feedAll(DoorOfLuck x, String text) {
        int[] b = new int[5];
        for (int i = 0; i < text.length(); i += 5) {
            int n = Math.min(5, text.length() - i);
            for (int k = 0; k < n; k++) b[k] = text.charAt(i + k);
            x.feed(n, b[0], b[1], b[2], b[3], b[4]);
        }
    }

    static int read(DoorOfLuck x, String text) {
        feedAll(x, text);
        return x.text();
    }

    static void law(DoorOfLuck x, String text) {
        int t = read(x, text);
        Due.is("text of " + text, t > 0 ? 1 : t, 1);
        x.force(t);
    }

    static void row(DoorOfLuck x, int s, int sort, int... cells) {
        x.sheet(s, sort, cells.length);
        for (int i = 0; i < cells.length; i++) x.cell(s, i, cells[i]);
    }

    static DoorOfLuck town(int... houses) {
        DoorOfLuck x = new DoorOfLuck();
        for (int i = 0; i + 1 < houses.length; i += 2) x.door(houses[i], houses[i + 1]);
        return x;
    }

    /** Houses 0 - 1 - 2 - 3 in a row, by doors 0, 1, 2. */
    static DoorOfLuck rowOfHouses() {
        return town(0, 1, 1, 2, 2, 3);
    }
}
