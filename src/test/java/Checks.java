import java.util.Arrays;

/** What the tests share: counting what is wrong, rows from texts, and what a refused call may change. */
final class Checks {
    interface Call {
        long of(BackToTheFirstStone x);
    }

    private static int wrong = 0;
    private static int made = 0;

    private Checks() {
    }

    static void is(String what, long got, long want) {
        made++;
        if (got != want) {
            wrong++;
            System.out.println(what + " answered " + got + ", due is " + want);
        }
    }

    static void end(String name) {
        System.out.println(name + ": " + made + " checks, " + wrong + " wrong");
        if (wrong != 0) System.exit(1);
    }

    static void fill(BackToTheFirstStone x, int s, int sort, long... elements) {
        is("row for filling", x.row(s, sort, elements.length), 1);
        for (int i = 0; i < elements.length; i++) is("set for filling", x.set(s, i, elements[i]), 1);
    }

    // Elements past these letters are what row() leaves, so a text costs a call a letter.
    static void write(BackToTheFirstStone x, int s, String text) {
        is("row for a text", x.row(s, 0, text.length()), 1);
        for (int i = 0; i < text.length(); i++) is("set for a text", x.set(s, i, text.charAt(i)), 1);
    }

    static int loopOf(BackToTheFirstStone x, String text) {
        write(x, 7, text);
        return x.loop(7);
    }

    /**
     * Shelves: 0 bytes (6), 1 ints (a book of two), 2 set-up 1, 3 nothing, 4 longs (8), 5 ints (a wrong book of one).
     */
    static BackToTheFirstStone sample() {
        BackToTheFirstStone x = new BackToTheFirstStone();
        x.setup(0, 0, 1500, 1400, 30, 40);
        x.setup(5, 3, 1300, 1360, 10, 20);
        x.setup(4, 2, 1000, 1020, 50, 60);
        x.tell(1, 2, 3);
        x.tell(2, 3, 1);
        x.ask(0, -70);
        x.seed(99);
        x.act(1, 1, 5);
        fill(x, 0, 0, 1, 2, 3, 4, 5, 6);
        fill(x, 1, 2, 1500, 1400, 5, 5, 9999, 0, 1, 99);
        x.show(2, 1);
        fill(x, 4, 3, 8, 7, 6, 5, 4, 3, 2, 1);
        fill(x, 5, 2, 0, 0, 0, 1);
        return x;
    }

    static void refused(String what, Call call, long answer, int number) {
        BackToTheFirstStone x = sample();
        refusedBy(x, what, call, answer, number);
    }

    static void refusedBy(BackToTheFirstStone x, String what, Call call, long answer, int number) {
        long[] before = seen(x);
        long[] counts = counts(x);
        is(what, call.of(x), answer);
        counts[number - 1]++;
        is(what + " leaves all as it was", Arrays.equals(before, seen(x)) ? 1 : 0, 1);
        is(what + " counts as -" + number, Arrays.equals(counts, counts(x)) ? 1 : 0, 1);
    }

    // As long as nothing is refused, no refusal may be counted.
    static void noneRefused(String what, BackToTheFirstStone x) {
        for (int number = 1; number <= 7; number++) is(what + " refusals -" + number, x.status(10 + number), 0);
    }

    private static long[] counts(BackToTheFirstStone x) {
        long[] counts = new long[7];
        for (int i = 0; i < 7; i++) counts[i] = x.status(11 + i);
        return counts;
    }

    private static long[] seen(BackToTheFirstStone x) {
        long[] seen = new long[120];
        int n = 0;
        for (int what = 0; what <= 6; what++) seen[n++] = x.status(what);
        for (int setup = 0; setup < 3 && setup < x.status(0); setup++) {
            for (int what = 0; what <= 7; what++) seen[n++] = x.setupOf(setup, what);
        }
        for (int s = 0; s < 8; s++) seen[n++] = x.holds(s);
        for (int s = 0; s < 6; s++) {
            for (int i = 0; i < 8; i++) seen[n++] = x.element(s, i);
        }
        seen[n++] = x.fault();
        for (int i = 0; i < 3; i++) seen[n++] = x.trace(i);
        return seen;
    }
}
