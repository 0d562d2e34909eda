/** Promises 1 and 9 to 12, set-ups and their figures: each boundary that the document names has a test of its own. */
public final class SetUpEdgesTest extends Checks {
    // KIND, a, BEHIND, AHEAD, YARDS behind, ahead: the least and the greatest that may be.
    private static final int[] LEAST = {0, 0, 0, 0, 1, 1};
    private static final int[] GREATEST = {6, 9, 9999, 9999, 99, 99};
    private static final String[] NAMES = {"kind", "a", "behind", "ahead", "back", "on"};

    public static void main(String[] args) {
        newObject();
        newObjectHasNoImage();
        newObjectsShareNothing();
        setupLeastAndGreatest();
        setupBeyondLeastAndGreatest();
        setupSixteenAndOneMore();
        setupHolderAndFirstAreNew();
        setupRefusalsInOrder();
        setupOfEveryFigure();
        setupOfSetUps();
        setupOfOtherWhats();
        setupOfBookedRange();
        tellLeastAndGreatest();
        tellBeyond();
        tellSetUps();
        tellRefusalsInOrder();
        tellChangesThatAlone();
        askLeastAndGreatest();
        askBeyond();
        askWhats();
        end("SetUpEdgesTest");
    }

    // ---- 1 ----

    private static void newObject() {
        is("1 no set-ups", made().status(0), 0);
        is("1 no yards", made().status(1), 0);
        is("1 START", made().status(2), 0);
        is("1 HAIR", made().status(3), 1);
        is("1 FINE", made().status(4), 5);
        is("1 SEED", made().status(5), 1);
        is("1 no bodies", made().status(6), 0);
        is("1 no FAULT", made().fault(), -1);
        is("1 no TRACE", made().trace(0), -1);
        is("1 stone 0", made().height(0), 0);
        is("1 OFF", made().off(0), 0);
        for (int s = 0; s < SHELVES; s++) is("1 shelf " + s, made().holds(s), -1);
        noneRefused("1", made());
    }

    private static void newObjectHasNoImage() {
        refusedOf(Checks::made, "1 no image", y -> y.restore(), -6, 6);
    }

    private static void newObjectsShareNothing() {
        BackToTheFirstStone x = sample();
        x.set(0, 99, 0);
        BackToTheFirstStone y = made();
        is("1 set-ups of its own", y.status(0), 0);
        is("1 shelves of its own", y.holds(0), -1);
        is("1 SEED of its own", y.status(5), 1);
        is("1 image of its own", y.restore(), -6);
        is("1 refusals of its own", y.status(15), 0);
        y.setup(0, 0, 5, 5, 5, 5);
        is("1 and the other way", x.setupOf(0, 2), 1500);
    }

    // ---- 9 setup ----

    private static BackToTheFirstStone onlySetUp(int column, int v) {
        int[] f = LEAST.clone();
        f[column] = v;
        return loopBy(f);
    }

    private static void setupLeastAndGreatest() {
        for (int column = 0; column < 6; column++) {
            is("9 least " + NAMES[column], onlySetUp(column, LEAST[column]).setupOf(0, column), LEAST[column]);
            is("9 greatest " + NAMES[column], onlySetUp(column, GREATEST[column]).setupOf(0, column), GREATEST[column]);
        }
    }

    private static void setupBeyondLeastAndGreatest() {
        for (int column = 0; column < 6; column++) {
            int due = column == 0 ? -1 : -6;
            for (int v : new int[] {LEAST[column] - 1, GREATEST[column] + 1, MIN, MAX}) {
                int[] f = LEAST.clone();
                f[column] = v;
                refused("9 " + NAMES[column] + " " + v, y -> y.setup(f[0], f[1], f[2], f[3], f[4], f[5]), due, -due);
            }
        }
    }

    // Numbers from 0 on, behind all; 16 at most.
    private static void setupSixteenAndOneMore() {
        BackToTheFirstStone x = made();
        for (int i = 0; i < 16; i++) is("9 set-up " + i, x.setup(0, 0, i, 0, 1, 1), i);
        for (int i = 0; i < 16; i++) is("9 in its place " + i, x.setupOf(i, 2), i);
        noneRefused("9", x);
        refusedOf(() -> plain(16), "9 one more", y -> y.setup(0, 0, 1, 1, 1, 1), -7, 7);
        is("9 one dropped", x.drop(), 15);
        is("9 room again", x.setup(0, 0, 1, 1, 1, 1), 15);
    }

    // HOLDER 0 and FIRST 0 at first, also where there was another SET-UP.
    private static void setupHolderAndFirstAreNew() {
        BackToTheFirstStone x = plain(1);
        is("9 HOLDER at first", x.setupOf(0, 6), 0);
        is("9 FIRST at first", x.setupOf(0, 7), 0);
        x.tell(0, 2, 3);
        x.tell(0, 3, 1);
        x.drop();
        x.setup(0, 0, 1, 1, 1, 1);
        is("9 HOLDER of another", x.setupOf(0, 6), 0);
        is("9 FIRST of another", x.setupOf(0, 7), 0);
    }

    private static void setupRefusalsInOrder() {
        refused("9 kind ahead of a", y -> y.setup(7, 10, 0, 0, 1, 1), -1, 1);
        refused("9 kind ahead of yards", y -> y.setup(-1, 0, 0, 0, 1, 0), -1, 1);
        refusedOf(() -> plain(16), "9 kind ahead of room", y -> y.setup(7, 0, 0, 0, 1, 1), -1, 1);
        refusedOf(() -> plain(16), "9 a ahead of room", y -> y.setup(0, 10, 0, 0, 1, 1), -6, 6);
        refusedOf(() -> plain(16), "9 yards ahead of room", y -> y.setup(0, 0, 0, 0, 1, 100), -6, 6);
    }

    // ---- 10 setupOf ----

    private static void setupOfEveryFigure() {
        BackToTheFirstStone x = loopBy(new int[] {0, 1, 2, 3, 4, 5}, new int[] {6, 9, 8, 7, 66, 55});
        x.tell(1, 2, 3);
        x.tell(1, 3, 1);
        int[] plain = {0, 1, 2, 3, 4, 5, 0, 0, -1, 0, -1};
        int[] noon = {6, 9, 8, 7, 66, 55, 3, 1, 1, 10, -9};
        for (int what = 0; what <= 10; what++) {
            is("10 first, what " + what, x.setupOf(0, what), plain[what]);
            is("10 last, what " + what, x.setupOf(1, what), noon[what]);
        }
        noneRefused("10", x);
    }

    private static void setupOfSetUps() {
        is("10 last of sixteen", plain(16).setupOf(15, 2), 1000);
        refused("10 behind the last", y -> y.setupOf(3, 0), -1000005, 5);
        refusedOf(() -> plain(16), "10 behind sixteen", y -> y.setupOf(16, 0), -1000005, 5);
        refusedOf(Checks::made, "10 of none", y -> y.setupOf(0, 0), -1000005, 5);
        refusedOf(SetUpEdgesTest::oneDropped, "10 dropped", y -> y.setupOf(1, 0), -1000005, 5);
        refused("10 -1", y -> y.setupOf(-1, 0), -1000005, 5);
        refused("10 least", y -> y.setupOf(MIN, 0), -1000005, 5);
        refused("10 greatest", y -> y.setupOf(MAX, 0), -1000005, 5);
    }

    private static BackToTheFirstStone oneDropped() {
        BackToTheFirstStone x = plain(2);
        x.drop();
        return x;
    }

    private static void setupOfOtherWhats() {
        refused("10 what -1", y -> y.setupOf(0, -1), -1000005, 5);
        refused("10 what 11", y -> y.setupOf(0, 11), -1000005, 5);
        refused("10 what least", y -> y.setupOf(0, MIN), -1000005, 5);
        refused("10 what greatest", y -> y.setupOf(0, MAX), -1000005, 5);
    }

    private static void setupOfBookedRange() {
        is("10 booked most", loopBy(new int[] {0, 0, 9999, 0, 1, 1}).setupOf(0, 8), 9999);
        is("10 booked least", loopBy(new int[] {0, 0, 0, 9999, 1, 1}).setupOf(0, 8), -9999);
        is("10 booked level", loopBy(new int[] {0, 0, 9999, 9999, 1, 1}).setupOf(0, 8), 0);
        is("10 rise least", loopBy(new int[] {5, 9, 0, 9999, 1, 1}).setupOf(0, 10), -10017);
        is("10 rise of what sinks", loopBy(new int[] {5, 9, 9, 9, 1, 1}).setupOf(0, 10), -18);
    }

    // ---- 11 tell ----

    private static void tellLeastAndGreatest() {
        int[] column = {2, 3, 6, 7};
        int[] greatest = {9999, 9999, 3, 1};
        int[] first = {1000, 1000, 0, 0};
        for (int what = 0; what <= 3; what++) {
            BackToTheFirstStone x = plain(2);
            is("11 greatest, what " + what, x.tell(1, what, greatest[what]), first[what]);
            is("11 is the greatest " + what, x.setupOf(1, column[what]), greatest[what]);
            is("11 least, what " + what, x.tell(1, what, 0), greatest[what]);
            is("11 is the least " + what, x.setupOf(1, column[what]), 0);
            is("11 as it is already " + what, x.tell(1, what, 0), 0);
            noneRefused("11", x);
        }
    }

    private static void tellBeyond() {
        int[] greatest = {9999, 9999, 3, 1};
        for (int what = 0; what <= 3; what++) {
            int asked = what;
            for (int v : new int[] {-1, greatest[what] + 1, MIN, MAX}) {
                refused("11 what " + what + " " + v, y -> y.tell(1, asked, v), -6, 6);
            }
        }
        refused("11 what -1", y -> y.tell(1, -1, 0), -6, 6);
        refused("11 what 4", y -> y.tell(1, 4, 0), -6, 6);
        refused("11 what least", y -> y.tell(1, MIN, 0), -6, 6);
        refused("11 what greatest", y -> y.tell(1, MAX, 0), -6, 6);
    }

    private static void tellSetUps() {
        BackToTheFirstStone x = plain(16);
        is("11 last of sixteen", x.tell(15, 0, 7), 1000);
        is("11 is told", x.setupOf(15, 2), 7);
        refused("11 behind the last", y -> y.tell(3, 0, 0), -1, 1);
        refused("11 -1", y -> y.tell(-1, 0, 0), -1, 1);
        refused("11 greatest", y -> y.tell(MAX, 0, 0), -1, 1);
        refused("11 least", y -> y.tell(MIN, 0, 0), -1, 1);
        refusedOf(() -> plain(16), "11 behind sixteen", y -> y.tell(16, 0, 0), -1, 1);
        refusedOf(Checks::made, "11 of none", y -> y.tell(0, 0, 0), -1, 1);
    }

    private static void tellRefusalsInOrder() {
        refused("11 set-up ahead of what", y -> y.tell(3, 4, 0), -1, 1);
        refused("11 set-up ahead of v", y -> y.tell(-1, 0, 10000), -1, 1);
    }

    private static void tellChangesThatAlone() {
        BackToTheFirstStone x = loopBy(new int[] {1, 2, 3, 4, 5, 6}, new int[] {1, 2, 3, 4, 5, 6});
        x.tell(1, 0, 9);
        x.tell(1, 3, 1);
        int[] first = {1, 2, 3, 4, 5, 6, 0, 0};
        int[] told = {1, 2, 9, 4, 5, 6, 0, 1};
        for (int what = 0; what <= 7; what++) {
            is("11 of another set-up, what " + what, x.setupOf(0, what), first[what]);
            is("11 of this one, what " + what, x.setupOf(1, what), told[what]);
        }
    }

    // ---- 12 ask ----

    private static void askLeastAndGreatest() {
        int[] least = {-9999, 0, 1};
        int[] greatest = {9999, 9, 99};
        int[] first = {0, 1, 5};
        for (int what = 0; what <= 2; what++) {
            BackToTheFirstStone x = made();
            is("12 least, what " + what, x.ask(what, least[what]), first[what]);
            is("12 is the least " + what, x.status(2 + what), least[what]);
            is("12 greatest, what " + what, x.ask(what, greatest[what]), least[what]);
            is("12 is the greatest " + what, x.status(2 + what), greatest[what]);
            for (int other = 0; other <= 2; other++) {
                if (other != what) is("12 another stays", x.status(2 + other), first[other]);
            }
            noneRefused("12", x);
        }
    }

    private static void askBeyond() {
        int[] below = {-10000, -1, 0};
        int[] above = {10000, 10, 100};
        for (int what = 0; what <= 2; what++) {
            int asked = what;
            for (int v : new int[] {below[what], above[what], MIN, MAX}) {
                refused("12 what " + what + " " + v, y -> y.ask(asked, v), -1000006, 6);
            }
        }
    }

    private static void askWhats() {
        refused("12 what -1", y -> y.ask(-1, 1), -1000006, 6);
        refused("12 what 3", y -> y.ask(3, 1), -1000006, 6);
        refused("12 what least", y -> y.ask(MIN, 1), -1000006, 6);
        refused("12 what greatest", y -> y.ask(MAX, 1), -1000006, 6);
    }
}
