import java.util.ArrayList;
import java.util.List;
import java.util.function.Consumer;

/** What the tests of boundary cases share: each is named by its promise and by the sentence that it holds to. */
class Edges extends Towns {
    static final int MIN = Integer.MIN_VALUE, MAX = Integer.MAX_VALUE;
    /** Stands for a promise's number where the sentence is one of the document's head, the face or 'Terms'. */
    static final int TERMS = 0;
    private static final List<Integer> PROMISES = new ArrayList<>();
    private static final List<String> SENTENCES = new ArrayList<>();

    interface Call {
        long with(int v);
    }

    static void edge(int promise, String sentence, String what, Runnable body) {
        PROMISES.add(promise);
        SENTENCES.add(sentence);
        Due.test((promise == TERMS ? "terms" : "promise " + promise) + ", '" + sentence + "': " + what, body);
    }

    /** Every sentence that a test is named by stands in the document, under the promise that the test names. */
    static void quotesStandIn(String document) {
        for (int promise = 0; promise <= 42; promise++) {
            String section = section(document, promise);
            if (!PROMISES.contains(promise)) Due.tell("no edge of promise " + promise);
            for (int i = 0; i < SENTENCES.size(); i++) {
                if (PROMISES.get(i) != promise || section.contains(SENTENCES.get(i))) continue;
                Due.tell("promise " + promise + " does not say '" + SENTENCES.get(i) + "'");
            }
        }
    }

    /** No word of what the document promises is without a test that is named by it. */
    static void nothingIsLeftOut(String document) {
        for (int promise = 0; promise <= 42; promise++) {
            StringBuilder left = new StringBuilder(promised(document, promise));
            String section = left.toString();
            for (int i = 0; i < SENTENCES.size(); i++) {
                if (PROMISES.get(i) != promise) continue;
                String sentence = SENTENCES.get(i);
                for (int at = section.indexOf(sentence); at >= 0; at = section.indexOf(sentence, at + 1)) {
                    for (int k = at; k < at + sentence.length(); k++) left.setCharAt(k, ' ');
                }
            }
            for (String word : left.toString().split("\\s+")) {
                if (word.matches(".*[A-Za-z0-9].*")) Due.tell("promise " + promise + ": no test of '" + word + "'");
            }
        }
    }

    /** What is promised: without headings, marks, and the lines of the face, which have tests of their own. */
    private static String promised(String document, int promise) {
        String section = section(document, promise);
        if (promise != TERMS) return section.substring(section.indexOf("`:") + 2);
        return section.substring(section.indexOf("There is one door"), section.indexOf("## The public face"))
                + section.substring(section.indexOf("======== 1") + 10, section.indexOf("Ahead of the calls"))
                        .replaceAll("======== 2|```text", "");
    }

    private static String section(String document, int promise) {
        int from = promise == TERMS ? 0 : document.indexOf("## Promise " + promise + ":");
        int to = document.indexOf("## Promise " + (promise + 1) + ":");
        if (to < 0) to = document.indexOf("## Not promised");
        return from < 0 || to < from ? "" : document.substring(from, to).replaceAll("\\s+", " ");
    }

    /** Too small and too large, by 1 and by far; some would fit if a bit of them were lost. */
    static int[] outside(int least, int most) {
        long[] all = {MIN, MIN + 1L, least - 65536L, least - 256L, least - 32L, least - 1L, most + 1L,
            least + 32L, least + 256L, least + 65536L, MAX - 1L, MAX};
        int[] bad = new int[all.length];
        int n = 0;
        for (long v : all) if ((v < least || v > most) && v == (int) v) bad[n++] = (int) v;
        return java.util.Arrays.copyOf(bad, n);
    }

    static void refused(String call, long due, int[] bad, Call asked) {
        for (int v : bad) Due.is(call + " by " + v, asked.with(v), due);
    }

    /** What is answered for 0, 1, .. */
    static void each(String call, Call asked, long... due) {
        for (int v = 0; v < due.length; v++) Due.is(call + " by " + v, asked.with(v), due[v]);
    }

    /** A town in which all that can be otherwise is: bricks, ends, what was opened, texts, sheets, an image. */
    static DoorOfLuck lived() {
        DoorOfLuck x = town(0, 1, 1, 2, 2, 0, 2, 3);
        x.person(SOUL + 4, 140);
        x.person(FOOTMAN + 2, 150);
        x.person(LADY + 3, 60);
        x.put(0, 2, 3);
        x.put(2, 2, 0);
        x.open(0, 0);
        x.open(1, 1);
        x.brick(2, 1);
        law(x, "gains luck-30;dares 1;leaves 7;");
        x.dawn(12);
        row(x, 0, INTS, 0, 1, 3);
        row(x, 1, BYTES, 43, 56, 7);
        row(x, 2, SHORTS, 1, 1);
        x.image();
        x.put(1, 1, 77);
        x.brick(1, 1);
        x.dawn(13);
        x.force(0);
        x.person(WIDOW + 9, 333);
        x.door(3, 4);
        feedAll(x, "gains 5");
        return x;
    }

    /** All that can be seen of an object of up to 5 doors; it is of no more use then. */
    static List<Long> look(DoorOfLuck x) {
        List<Long> seen = new ArrayList<>();
        lookAtTown(x, seen);
        for (int s = 0; s < 4; s++) {
            for (int what = 0; what < 4; what++) seen.add((long) x.walk(s, 0, what));
            for (int other = 0; other < 4; other++) seen.add((long) x.lucks(s, other, 0, 1));
        }
        for (int t = 0; t < x.count(3); t++) {
            x.force(t);
            for (int part = 0; part < 3; part++) seen.add((long) x.asks(part, 0, 3));
        }
        seen.add((long) x.text());
        seen.add((long) x.back());
        lookAtTown(x, seen);
        for (int s = 0; s < 4; s++) {
            for (int i = 0; i < 4; i++) seen.add((long) x.cell(s, i, 0));
        }
        return seen;
    }

    private static void lookAtTown(DoorOfLuck x, List<Long> seen) {
        for (int what = 0; what < 6; what++) seen.add((long) x.count(what));
        for (int d = 0; d < x.count(1); d++) {
            for (int what = 0; what < 5; what++) seen.add((long) x.hung(d, what));
        }
        for (int p = 0; p < x.count(0); p++) {
            for (int what = 0; what < 6; what++) seen.add((long) x.told(p, what));
        }
    }

    /** Calls that change nothing: what is seen of a town behind them is what is seen of its like. */
    static void changeNothing(Consumer<DoorOfLuck> calls) {
        DoorOfLuck x = lived();
        calls.accept(x);
        List<Long> is = look(x);
        List<Long> due = look(lived());
        if (!is.equals(due)) Due.tell("it is otherwise: " + is + ", due is " + due);
    }
}
