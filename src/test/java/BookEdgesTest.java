/** Promises 27 to 29, told books: each boundary that the document names has a test of its own. */
public final class BookEdgesTest extends Checks {
    private static final String[] NAMES = {"BEHIND", "AHEAD", "YARDS behind", "YARDS ahead"};
    private static final long[] LEAST = {0, 0, 1, 1};
    private static final long[] GREATEST = {9999, 9999, 99, 99};

    public static void main(String[] args) {
        judgeLeastAndGreatest();
        judgeFirstOfSeveral();
        judgeOfNone();
        judgeSixteenAndOneMore();
        judgeElementsThatAreThere();
        judgeLooksAtNoMore();
        judgeRowsOfOtherSorts();
        judgeRefusals();
        judgeRefusalsInOrder();
        closesSums();
        closesOfNone();
        closesSixteenAndOneMore();
        closesIfWrong();
        closesRefusals();
        closesRefusalsInOrder();
        doneOfNone();
        doneFigures();
        doneByLowestBits();
        doneSixteenAndOneMore();
        doneIfWrong();
        doneRefusals();
        doneRefusalsInOrder();
        end("BookEdgesTest");
    }

    // SHELF 0 has a good BOOK of so many SET-UPS, and some elements more.
    private static BackToTheFirstStone book(int setUps, int more) {
        BackToTheFirstStone x = made();
        x.row(0, 2, 4 * setUps + more);
        for (int i = 0; i < setUps; i++) {
            x.set(0, 4 * i, 1000 + i);
            x.set(0, 4 * i + 2, 1);
            x.set(0, 4 * i + 3, 1);
        }
        return x;
    }

    private static Maker bookOf(int setUps, int more) {
        return () -> book(setUps, more);
    }

    // ---- 27 judge ----

    private static void judgeLeastAndGreatest() {
        for (int i = 0; i < 4; i++) {
            for (int setUp = 0; setUp <= 1; setUp++) {
                BackToTheFirstStone x = book(2, 0);
                int at = 4 * setUp + i;
                judged(NAMES[i] + " least", x, at, LEAST[i], -1);
                judged(NAMES[i] + " below", x, at, LEAST[i] - 1, at);
                judged(NAMES[i] + " greatest", x, at, GREATEST[i], -1);
                judged(NAMES[i] + " above", x, at, GREATEST[i] + 1, at);
                judged(NAMES[i] + " far below", x, at, MIN, at);
                judged(NAMES[i] + " far above", x, at, MAX, at);
                noneRefused("27", x);
            }
        }
    }

    private static void judged(String what, BackToTheFirstStone x, int at, long v, int due) {
        x.set(0, at, v);
        is("27 " + what, x.judge(0, 2), due);
    }

    private static void judgeFirstOfSeveral() {
        BackToTheFirstStone x = book(3, 0);
        x.set(0, 10, 0);
        is("27 one wrong", x.judge(0, 3), 10);
        x.set(0, 7, 100);
        is("27 one ahead of it", x.judge(0, 3), 7);
        x.set(0, 0, -1);
        is("27 the first of all", x.judge(0, 3), 0);
    }

    private static void judgeOfNone() {
        is("27 none", book(1, 0).judge(0, 0), -1);
        is("27 none in a row of none", book(0, 0).judge(0, 0), -1);
        is("27 none of a wrong book", sample().judge(5, 0), -1);
    }

    private static void judgeSixteenAndOneMore() {
        BackToTheFirstStone x = book(16, 0);
        is("27 sixteen", x.judge(0, 16), -1);
        x.set(0, 63, 0);
        is("27 the last of sixteen", x.judge(0, 16), 63);
        refusedOf(bookOf(17, 0), "27 seventeen", y -> y.judge(0, 17), -16, 6);
        refusedOf(bookOf(40, 0), "27 forty", y -> y.judge(0, 40), -16, 6);
    }

    private static void judgeElementsThatAreThere() {
        is("27 just four", book(1, 0).judge(0, 1), -1);
        is("27 seven are enough for one", book(1, 3).judge(0, 1), -1);
        refusedOf(bookOf(1, 3), "27 seven for two", y -> y.judge(0, 2), -15, 5);
        refusedOf(bookOf(0, 3), "27 three for one", y -> y.judge(0, 1), -15, 5);
        refusedOf(bookOf(0, 0), "27 none for one", y -> y.judge(0, 1), -15, 5);
        refusedOf(bookOf(15, 3), "27 63 for sixteen", y -> y.judge(0, 16), -15, 5);
    }

    private static void judgeLooksAtNoMore() {
        BackToTheFirstStone x = book(2, 0);
        x.set(0, 4, -1);
        is("27 what is behind isn't asked", x.judge(0, 1), -1);
        is("27 it is for two", x.judge(0, 2), 4);
    }

    private static void judgeRowsOfOtherSorts() {
        BackToTheFirstStone x = made();
        fill(x, 0, 3, 9999 + (1L << 32), -(1L << 32), 1 + (1L << 40), 99);
        is("27 longs by their lowest bits", x.judge(0, 1), -1);
        fill(x, 0, 0, 127, 128, 1, 1);
        is("27 bytes by what they hold", x.judge(0, 1), 1);
        fill(x, 0, 1, 9999, 65536, 1, 32768);
        is("27 shorts by what they hold", x.judge(0, 1), 3);
    }

    private static void judgeRefusals() {
        refused("27 shelf -1", y -> y.judge(-1, 1), -11, 1);
        refused("27 shelf 8", y -> y.judge(8, 1), -11, 1);
        refused("27 a set-up", y -> y.judge(2, 1), -12, 2);
        refused("27 nothing", y -> y.judge(3, 1), -13, 3);
        refused("27 n -1", y -> y.judge(1, -1), -14, 4);
        refused("27 n least", y -> y.judge(1, MIN), -14, 4);
        refused("27 nothing, none asked", y -> y.judge(3, 0), -13, 3);
    }

    private static void judgeRefusalsInOrder() {
        refused("27 shelf ahead of n", y -> y.judge(8, -1), -11, 1);
        refused("27 shelf ahead of n 17", y -> y.judge(8, 17), -11, 1);
        refused("27 a set-up ahead of n", y -> y.judge(2, -1), -12, 2);
        refused("27 a set-up ahead of n 17", y -> y.judge(2, 17), -12, 2);
        refused("27 nothing ahead of n", y -> y.judge(3, -1), -13, 3);
        refused("27 nothing ahead of fewer", y -> y.judge(3, 1), -13, 3);
        refused("27 fewer ahead of n 17", y -> y.judge(1, 17), -15, 5);
        refusedOf(bookOf(16, 3), "27 67 for seventeen", y -> y.judge(0, 17), -15, 5);
        refused("27 fewer for the greatest n", y -> y.judge(1, MAX), -15, 5);
        refused("27 fewer for an n whose fourfold wraps to 0", y -> y.judge(1, 1 << 30), -15, 5);
        refused("27 fewer for an n whose fourfold wraps below 0", y -> y.judge(1, 1 << 29), -15, 5);
    }

    // ---- 28 closes ----

    private static BackToTheFirstStone bookBy(int setUps, int behind, int ahead) {
        BackToTheFirstStone x = book(setUps, 0);
        for (int i = 0; i < setUps; i++) {
            x.set(0, 4 * i, behind);
            x.set(0, 4 * i + 1, ahead);
        }
        return x;
    }

    private static void closesSums() {
        is("28 just closes", bookBy(1, 7, 7).closes(0, 1), 0);
        is("28 one above", bookBy(1, 8, 7).closes(0, 1), 1);
        is("28 one below", bookBy(1, 7, 8).closes(0, 1), -1);
        is("28 the first alone", bookBy(2, 8, 7).closes(0, 1), 1);
        is("28 both", bookBy(2, 8, 7).closes(0, 2), 2);
        is("28 greatest", bookBy(16, 9999, 0).closes(0, 16), 159984);
        is("28 least", bookBy(16, 0, 9999).closes(0, 16), -159984);
        BackToTheFirstStone x = made();
        fill(x, 0, 3, 5 + (1L << 32), 3, 1, 1);
        is("28 longs by their lowest bits", x.closes(0, 1), 2);
    }

    private static void closesOfNone() {
        is("28 none", book(1, 0).closes(0, 0), 0);
        is("28 none in a row of none", book(0, 0).closes(0, 0), 0);
        is("28 none of a wrong book", sample().closes(5, 0), 0);
    }

    private static void closesSixteenAndOneMore() {
        is("28 sixteen", book(16, 0).closes(0, 16), 16 * 1000 + 120);
        refusedOf(bookOf(17, 0), "28 seventeen", y -> y.closes(0, 17), -1000006, 6);
        refusedOf(bookOf(1, 3), "28 seven for two", y -> y.closes(0, 2), -1000005, 5);
        refusedOf(bookOf(15, 3), "28 63 for sixteen", y -> y.closes(0, 16), -1000005, 5);
    }

    // -6 also if it is WRONG.
    private static void closesIfWrong() {
        refused("28 wrong", y -> y.closes(5, 1), -1000006, 6);
        refusedOf(BookEdgesTest::wrongAtTheEnd, "28 the last wrong", y -> y.closes(0, 2), -1000006, 6);
        is("28 wrong behind", wrongAtTheEnd().closes(0, 1), 1000);
    }

    private static BackToTheFirstStone wrongAtTheEnd() {
        BackToTheFirstStone x = book(2, 0);
        x.set(0, 7, 100);
        return x;
    }

    private static void closesRefusals() {
        refused("28 shelf -1", y -> y.closes(-1, 1), -1000001, 1);
        refused("28 shelf 8", y -> y.closes(8, 1), -1000001, 1);
        refused("28 a set-up", y -> y.closes(2, 1), -1000002, 2);
        refused("28 nothing", y -> y.closes(3, 1), -1000003, 3);
        refused("28 n -1", y -> y.closes(1, -1), -1000004, 4);
        refused("28 n least", y -> y.closes(1, MIN), -1000004, 4);
        refused("28 fewer", y -> y.closes(1, 3), -1000005, 5);
    }

    private static void closesRefusalsInOrder() {
        refused("28 shelf ahead of n", y -> y.closes(8, -1), -1000001, 1);
        refused("28 a set-up ahead of n", y -> y.closes(2, -1), -1000002, 2);
        refused("28 nothing ahead of n", y -> y.closes(3, -1), -1000003, 3);
        refused("28 nothing ahead of fewer", y -> y.closes(3, 1), -1000003, 3);
        refused("28 n ahead of a wrong book", y -> y.closes(5, -1), -1000004, 4);
        refused("28 fewer ahead of n 17", y -> y.closes(1, 17), -1000005, 5);
        refused("28 fewer ahead of a wrong book", y -> y.closes(5, 2), -1000005, 5);
        refused("28 fewer for an n whose fourfold wraps", y -> y.closes(1, 1 << 30), -1000005, 5);
    }

    // ---- 29 done ----

    private static void doneOfNone() {
        is("29 none", book(1, 0).done(0, 0), 0);
        is("29 none in a row of none", book(0, 0).done(0, 0), 0);
        is("29 none behind some", sample().done(1, 0), 3);
        is("29 none where there is no room", full(0).done(0, 0), 16);
    }

    // So many are free; SHELF 0 has a BOOK of two.
    private static BackToTheFirstStone full(int free) {
        BackToTheFirstStone x = book(2, 0);
        for (int i = 0; i < 16 - free; i++) x.setup(1, 9, 1, 1, 1, 1);
        return x;
    }

    // KIND 0, a 0; HOLDER and FIRST as at first.
    private static void doneFigures() {
        BackToTheFirstStone x = made();
        x.setup(6, 9, 1, 1, 1, 1);
        x.setup(6, 9, 1, 1, 1, 1);
        x.tell(1, 2, 3);
        x.tell(1, 3, 1);
        x.drop();
        fill(x, 0, 2, 9999, 0, 99, 1, 0, 9999, 1, 99);
        is("29 two", x.done(0, 2), 3);
        int[][] due = {{6, 9, 1, 1, 1, 1, 0, 0}, {0, 0, 9999, 0, 99, 1, 0, 0}, {0, 0, 0, 9999, 1, 99, 0, 0}};
        for (int i = 0; i < 3; i++) {
            for (int what = 0; what <= 7; what++) is("29 set-up " + i + " what " + what, x.setupOf(i, what), due[i][what]);
        }
        is("29 the first alone", x.done(0, 1), 4);
        is("29 behind all", x.setupOf(3, 2), 9999);
        noneRefused("29", x);
    }

    private static void doneByLowestBits() {
        BackToTheFirstStone x = made();
        fill(x, 0, 3, 5 + (1L << 32), 3 - (1L << 40), 1, 2);
        is("29 longs", x.done(0, 1), 1);
        is("29 longs, BEHIND", x.setupOf(0, 2), 5);
        is("29 longs, AHEAD", x.setupOf(0, 3), 3);
    }

    private static void doneSixteenAndOneMore() {
        is("29 sixteen at once", book(16, 0).done(0, 16), 16);
        is("29 just room for two", full(2).done(0, 2), 16);
        is("29 just room for one", full(1).done(0, 1), 16);
        refusedOf(() -> full(1), "29 two where there is room for one", y -> y.done(0, 2), -7, 7);
        refusedOf(() -> full(0), "29 one where there is no room", y -> y.done(0, 1), -7, 7);
        refusedOf(bookOf(17, 0), "29 seventeen", y -> y.done(0, 17), -6, 6);
        refusedOf(bookOf(15, 3), "29 63 for sixteen", y -> y.done(0, 16), -5, 5);
    }

    private static void doneIfWrong() {
        refused("29 wrong", y -> y.done(5, 1), -6, 6);
        refusedOf(BookEdgesTest::wrongAtTheEnd, "29 the last wrong, none of it", y -> y.done(0, 2), -6, 6);
        is("29 wrong behind", wrongAtTheEnd().done(0, 1), 1);
    }

    private static void doneRefusals() {
        refused("29 shelf -1", y -> y.done(-1, 1), -1, 1);
        refused("29 shelf 8", y -> y.done(8, 1), -1, 1);
        refused("29 a set-up", y -> y.done(2, 1), -2, 2);
        refused("29 nothing", y -> y.done(3, 1), -3, 3);
        refused("29 n -1", y -> y.done(1, -1), -4, 4);
        refused("29 n least", y -> y.done(1, MIN), -4, 4);
        refused("29 fewer", y -> y.done(1, 3), -5, 5);
        refused("29 fewer for an n whose fourfold wraps", y -> y.done(1, 1 << 30), -5, 5);
    }

    private static void doneRefusalsInOrder() {
        refused("29 shelf ahead of n", y -> y.done(8, -1), -1, 1);
        refused("29 a set-up ahead of n", y -> y.done(2, -1), -2, 2);
        refused("29 nothing ahead of n", y -> y.done(3, -1), -3, 3);
        refused("29 nothing ahead of fewer", y -> y.done(3, 1), -3, 3);
        refused("29 n ahead of a wrong book", y -> y.done(5, -1), -4, 4);
        refused("29 fewer ahead of n 17", y -> y.done(1, 17), -5, 5);
        refused("29 fewer ahead of a wrong book", y -> y.done(5, 2), -5, 5);
        refusedOf(() -> full(0), "29 fewer ahead of room", y -> y.done(0, 3), -5, 5);
        refusedOf(BookEdgesTest::fullAndWrong, "29 a wrong book ahead of room", y -> y.done(0, 1), -6, 6);
        refusedOf(BookEdgesTest::fullAndLong, "29 n 17 ahead of room", y -> y.done(0, 17), -6, 6);
    }

    private static BackToTheFirstStone fullAndWrong() {
        BackToTheFirstStone x = full(0);
        x.set(0, 0, -1);
        return x;
    }

    private static BackToTheFirstStone fullAndLong() {
        BackToTheFirstStone x = book(17, 0);
        for (int i = 0; i < 16; i++) x.setup(0, 0, 1, 1, 1, 1);
        return x;
    }
}
