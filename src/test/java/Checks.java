import java.util.Arrays;

/** What the tests share: counting what is wrong, rows from texts, and what a refused call may change. */
abstract class Checks {
    static final int MIN = Integer.MIN_VALUE;
    static final int MAX = Integer.MAX_VALUE;
    static final int SHELVES = 8;

    interface Call {
        long of(BackToTheFirstStone x);
    }

    interface Maker {
        BackToTheFirstStone make();
    }

    private static int wrong = 0;
    private static int made = 0;

    static void is(String what, long got, long want) {
        made++;
        if (got != want) {
            wrong++;
            System.out.println(what + " answered " + got + ", due is " + want);
        }
    }

    static void end(String name) {
        System.out.println(name + ": " + made + " checks, " + wrong + " wrong");
        if (wrong != 0) System.exit(1);
    }

    static void fill(BackToTheFirstStone x, int s, int sort, long... elements) {
        is("row for filling", x.row(s, sort, elements.length), 1);
        for (int i = 0; i < elements.length; i++) is("set for filling", x.set(s, i, elements[i]), 1);
    }

    // Elements past these letters are what row() leaves, so a text costs a call a letter.
    static void write(BackToTheFirstStone x, int s, String text) {
        is("row for a text", x.row(s, 0, text.length()), 1);
        for (int i = 0; i < text.length(); i++) is("set for a text", x.set(s, i, text.charAt(i)), 1);
    }

    static int loopOf(BackToTheFirstStone x, String text) {
        write(x, 7, text);
        return x.loop(7);
    }

    /**
     * Shelves: 0 bytes (6), 1 ints (a book of two), 2 set-up 1, 3 nothing, 4 longs (8), 5 ints (a wrong book of one).
     * Three set-ups; an image of other figures.
     */
    static BackToTheFirstStone sample() {
        BackToTheFirstStone x = new BackToTheFirstStone();
        x.setup(0, 0, 1500, 1400, 30, 40);
        x.setup(5, 3, 1300, 1360, 10, 20);
        x.setup(4, 2, 1000, 1020, 50, 60);
        x.tell(1, 2, 3);
        x.image();
        x.tell(2, 3, 1);
        x.ask(0, -70);
        x.seed(99);
        x.act(1, 1, 5);
        fill(x, 0, 0, 1, 2, 3, 4, 5, 6);
        fill(x, 1, 2, 1500, 1400, 5, 5, 9999, 0, 1, 99);
        x.show(2, 1);
        fill(x, 4, 3, 8, 7, 6, 5, 4, 3, 2, 1);
        fill(x, 5, 2, 0, 0, 0, 1);
        return x;
    }

    static void refused(String what, Call call, long answer, int number) {
        refusedOf(Checks::sample, what, call, answer, number);
    }

    // Of two made alike one is refused once: in all but the count of that refusal they stay alike.
    static void refusedOf(Maker maker, String what, Call call, long answer, int number) {
        BackToTheFirstStone x = maker.make();
        BackToTheFirstStone alike = maker.make();
        is(what, call.of(x), answer);
        for (int n = 1; n <= 7; n++) {
            is(what + " counts, refusals -" + n, x.status(10 + n), alike.status(10 + n) + (n == number ? 1 : 0));
        }
        is(what + " leaves all as it was", Arrays.equals(seenWithImage(x), seenWithImage(alike)) ? 1 : 0, 1);
    }

    static void refusedBy(BackToTheFirstStone x, String what, Call call, long answer, int number) {
        long[] before = seen(x);
        long[] counts = counts(x);
        is(what, call.of(x), answer);
        counts[number - 1]++;
        is(what + " leaves all as it was", Arrays.equals(before, seen(x)) ? 1 : 0, 1);
        is(what + " counts as -" + number, Arrays.equals(counts, counts(x)) ? 1 : 0, 1);
    }

    // As long as nothing is refused, no refusal may be counted.
    static void noneRefused(String what, BackToTheFirstStone x) {
        for (int number = 1; number <= 7; number++) is(what + " refusals -" + number, x.status(10 + number), 0);
    }

    private static long[] counts(BackToTheFirstStone x) {
        long[] counts = new long[7];
        for (int i = 0; i < 7; i++) counts[i] = x.status(11 + i);
        return counts;
    }

    private static long[] seen(BackToTheFirstStone x) {
        Seen seen = new Seen();
        seen.loopOf(x);
        for (int s = 0; s < SHELVES; s++) {
            seen.add(x.holds(s));
            for (int i = 0; i < 9; i++) seen.add(x.element(s, i));
            seen.add(x.element(s, 159));
        }
        seen.add(x.fault());
        seen.add(x.status(6));
        for (int i = 0; i <= 10; i++) seen.add(x.trace(i));
        return seen.all();
    }

    // The image can be seen only by going back to it.
    private static long[] seenWithImage(BackToTheFirstStone x) {
        Seen seen = new Seen();
        for (long one : seen(x)) seen.add(one);
        seen.add(x.restore());
        seen.loopOf(x);
        return seen.all();
    }

    /** Answers, one after the other. */
    private static final class Seen {
        private long[] answers = new long[512];
        private int n = 0;

        void add(long answer) {
            answers[n++] = answer;
        }

        void loopOf(BackToTheFirstStone x) {
            for (int what = 0; what <= 5; what++) add(x.status(what));
            int setUps = x.status(0);
            for (int setup = 0; setup < setUps; setup++) {
                for (int what = 0; what <= 7; what++) add(x.setupOf(setup, what));
            }
        }

        long[] all() {
            return Arrays.copyOf(answers, n);
        }
    }

    static BackToTheFirstStone made() {
        return new BackToTheFirstStone();
    }

    // So many alike: level, no error, two yards.
    static BackToTheFirstStone plain(int setUps) {
        BackToTheFirstStone x = made();
        for (int i = 0; i < setUps; i++) is("plain set-up", x.setup(0, 0, 1000, 1000, 1, 1), i);
        return x;
    }

    // The loop's set-ups by {KIND, a, BEHIND, AHEAD, YARDS, YARDS}.
    static BackToTheFirstStone loopBy(int[]... setUps) {
        BackToTheFirstStone x = made();
        for (int i = 0; i < setUps.length; i++) {
            int[] v = setUps[i];
            is("set-up", x.setup(v[0], v[1], v[2], v[3], v[4], v[5]), i);
        }
        return x;
    }

    // The loop's set-ups by what they book, without any error.
    static BackToTheFirstStone booked(int... booked) {
        BackToTheFirstStone x = made();
        for (int v : booked) x.setup(0, 0, Math.max(v, 0), Math.max(-v, 0), 1, 1);
        return x;
    }
}
