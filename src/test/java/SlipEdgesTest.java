/** Promise 18, one slip that makes it: each boundary that the document names has a test of its own. */
public final class SlipEdgesTest extends Checks {
    public static void main(String[] args) {
        sixWasNineOfEveryFigure();
        sixWasNineOfAhead();
        nineWasSixOfEveryFigure();
        nineWasSixOfAhead();
        oneFigureAlone();
        neighboursOfEveryPair();
        neighboursOfAhead();
        neighboursAlike();
        hundredLessFromAHundredOn();
        hundredLessOfAhead();
        hundredMoreToTheGreatest();
        hundredMoreOfAhead();
        otherWay();
        otherWayAlikeOnce();
        offIsNothingNow();
        errorsAsTheyAreThen();
        errorsOfLevelThen();
        firstBySetUps();
        firstByReadings();
        firstBySorts();
        firstByHigherFigure();
        otherWayAheadOfAhead();
        lastOfSixteen();
        none();
        noSetUps();
        whats();
        end("SlipEdgesTest");
    }

    // One UNEVEN, whose ERROR no slip changes: 88 above or below 0 by HAIR 9, 49 by HAIR 5.
    private static BackToTheFirstStone uneven(int error, int behind, int ahead) {
        int back = error > 0 ? 99 : 1;
        BackToTheFirstStone x = loopBy(new int[] {1, 0, behind, ahead, back, 100 - back});
        x.ask(1, Math.abs(error) == 88 ? 9 : 5);
        is("18 its error", x.setupOf(0, 9), error);
        return x;
    }

    private static BackToTheFirstStone leaning(int a, int behind, int ahead) {
        return loopBy(new int[] {4, a, behind, ahead, 1, 1});
    }

    // How many, and of the first SET-UP, reading, SORT, what it would be.
    private static void told(String what, BackToTheFirstStone x, int many, int... first) {
        is("18 how many: " + what, x.big(-1), many);
        for (int i = 0; i < 4; i++) is("18 first " + i + ": " + what, x.big(i), first[i]);
        is("18 how many, asked again: " + what, x.big(-1), many);
        noneRefused("18 " + what, x);
    }

    // ---- SORTS 0 and 1, one of the four figures, 0s ahead ----

    private static void sixWasNineOfEveryFigure() {
        told("6 was 9, thousands", uneven(88, 6000, 8912), 1, 0, 0, 0, 9000);
        told("6 was 9, hundreds", uneven(88, 600, 812), 1, 0, 0, 0, 900);
        told("6 was 9, tens", uneven(-88, 60, 178), 1, 0, 0, 0, 90);
        told("6 was 9, ones", uneven(-88, 6, 97), 1, 0, 0, 0, 9);
    }

    private static void sixWasNineOfAhead() {
        told("ahead's 6 was 9, thousands", uneven(-88, 8912, 6000), 1, 0, 1, 0, 9000);
        told("ahead's 6 was 9, hundreds", uneven(-88, 812, 600), 1, 0, 1, 0, 900);
        told("ahead's 6 was 9, tens", uneven(88, 178, 60), 1, 0, 1, 0, 90);
        told("ahead's 6 was 9, ones", uneven(88, 97, 6), 1, 0, 1, 0, 9);
    }

    private static void nineWasSixOfEveryFigure() {
        told("9 was 6, thousands", uneven(88, 9000, 5912), 1, 0, 0, 1, 6000);
        told("9 was 6, hundreds", uneven(88, 900, 512), 1, 0, 0, 1, 600);
        told("9 was 6, tens", uneven(-88, 90, 148), 1, 0, 0, 1, 60);
        told("9 was 6, ones", uneven(-88, 9, 94), 1, 0, 0, 1, 6);
    }

    private static void nineWasSixOfAhead() {
        told("ahead's 9 was 6, thousands", uneven(-88, 5912, 9000), 1, 0, 1, 1, 6000);
        told("ahead's 9 was 6, hundreds", uneven(-88, 512, 900), 1, 0, 1, 1, 600);
        told("ahead's 9 was 6, tens", uneven(88, 148, 90), 1, 0, 1, 1, 60);
        told("ahead's 9 was 6, ones", uneven(88, 94, 9), 1, 0, 1, 1, 6);
    }

    // Not two at once: 66 isn't a slip of 99, 99 none of 66.
    private static void oneFigureAlone() {
        is("18 two 6s at once", uneven(-88, 66, 187).big(-1), 0);
        is("18 two 9s at once", uneven(-88, 99, 154).big(-1), 0);
        told("one of two 6s", uneven(-88, 66, 184), 1, 0, 0, 0, 96);
        told("the other of two 6s", uneven(-88, 66, 157), 1, 0, 0, 0, 69);
    }

    // ---- SORT 2, 0s ahead ----

    private static void neighboursOfEveryPair() {
        told("thousands to hundreds", uneven(88, 1000, 12), 1, 0, 0, 2, 100);
        told("hundreds to thousands", uneven(88, 100, 912), 1, 0, 0, 2, 1000);
        told("tens to hundreds", uneven(88, 10, 12), 1, 0, 0, 2, 100);
        told("tens to ones", uneven(-49, 10, 50), 1, 0, 0, 2, 1);
        told("ones to tens", uneven(-49, 1, 59), 1, 0, 0, 2, 10);
    }

    private static void neighboursOfAhead() {
        told("ahead's thousands to hundreds", uneven(-88, 12, 1000), 1, 0, 1, 2, 100);
        told("ahead's tens to hundreds", uneven(-88, 12, 10), 1, 0, 1, 2, 100);
        told("ahead's ones to tens", uneven(49, 59, 1), 1, 0, 1, 2, 10);
    }

    // Unlike figures alone: what is alike is no slip, though OFF is 0 by it.
    private static void neighboursAlike() {
        told("four alike", booked4(1111), 1, 0, 0, 5, 1111);
        told("four 0s", booked4(0), 1, 0, 0, 5, 0);
        told("two pairs alike", booked4(2277), 1, 0, 0, 5, 2277);
    }

    private static BackToTheFirstStone booked4(int v) {
        return loopBy(new int[] {0, 0, v, v, 1, 1});
    }

    // ---- SORTS 3 and 4, 0 to 9999 ----

    private static void hundredLessFromAHundredOn() {
        told("99 less 100 isn't", uneven(-88, 99, 87), 1, 0, 1, 4, 187);
        told("100 less 100", uneven(-88, 100, 88), 2, 0, 0, 3, 0);
    }

    private static void hundredLessOfAhead() {
        told("ahead's 99 less 100 isn't", uneven(88, 87, 99), 1, 0, 0, 4, 187);
        told("ahead's 100 less 100", uneven(88, 88, 100), 2, 0, 0, 4, 188);
        told("ahead's 9950 less 100", uneven(88, 9938, 9950), 1, 0, 1, 3, 9850);
    }

    private static void hundredMoreToTheGreatest() {
        told("9900 and 100 isn't", uneven(88, 9900, 9912), 1, 0, 1, 3, 9812);
        told("9899 and 100", uneven(88, 9899, 9911), 2, 0, 0, 4, 9999);
        told("0 and 100", uneven(88, 0, 12), 1, 0, 0, 4, 100);
    }

    private static void hundredMoreOfAhead() {
        told("ahead's 9900 and 100 isn't", uneven(-88, 9912, 9900), 1, 0, 0, 3, 9812);
        told("ahead's 9899 and 100", uneven(-88, 9911, 9899), 2, 0, 0, 3, 9811);
        told("ahead's 0 and 100", uneven(-88, 12, 0), 1, 0, 1, 4, 100);
    }

    // ---- SORT 5 ----

    private static void otherWay() {
        told("the other way", uneven(-88, 1088, 1000), 1, 0, 0, 5, 1000);
        told("the other way below", uneven(88, 1000, 1088), 1, 0, 0, 5, 1088);
    }

    // Once for a SET-UP, told as of BEHIND; alike counts, too.
    private static void otherWayAlikeOnce() {
        told("alike", plain(1), 1, 0, 0, 5, 1000);
        told("sixteen alike", plain(16), 16, 0, 0, 5, 1000);
    }

    // They count also if OFF is 0 now.
    private static void offIsNothingNow() {
        BackToTheFirstStone x = leaning(9, 1009, 1000);
        is("18 OFF now", x.off(0), 0);
        told("OFF 0 now", x, 1, 0, 0, 5, 1000);
    }

    // ---- ERRORS as they are then ----

    private static void errorsAsTheyAreThen() {
        told("leaning the other way", leaning(9, 1000, 1009), 1, 0, 0, 5, 1009);
        BackToTheFirstStone noon = loopBy(new int[] {6, 8, 1000, 1009, 50, 50});
        told("at noon the other way", noon, 1, 0, 0, 5, 1009);
    }

    private static void errorsOfLevelThen() {
        BackToTheFirstStone x = leaning(9, 1006, 1009);
        is("18 OFF of one that leans", x.off(0), 6);
        told("level then", x, 2, 0, 0, 0, 1009);
    }

    // ---- the first ----

    private static void firstBySetUps() {
        int[] one = {0, 0, 1200, 1150, 1, 1};
        int[] other = {0, 0, 1100, 1050, 1, 1};
        told("of two set-ups", loopBy(one, other), 6, 0, 0, 3, 1100);
        told("of two the other way", loopBy(other, one), 6, 0, 0, 3, 1000);
    }

    private static void firstByReadings() {
        told("BEHIND ahead of AHEAD", uneven(-88, 1112, 1100), 2, 0, 0, 3, 1012);
        told("BEHIND's SORT 4 ahead of AHEAD's SORT 3", uneven(88, 1100, 1112), 2, 0, 0, 4, 1200);
    }

    // By one that leans two unlike slips of one reading make it.
    private static void firstBySorts() {
        told("SORT 0 ahead of 2", leaning(3, 1056, 1062), 2, 0, 0, 0, 1059);
        told("SORT 1 ahead of 2", leaning(6, 1089, 1092), 2, 0, 0, 1, 1086);
        told("SORT 2 ahead of 3", leaning(5, 1105, 1010), 4, 0, 0, 2, 1015);
        told("SORT 3 ahead of 5", unevenByFifty(1060, 1010), 3, 0, 0, 3, 960);
    }

    private static void firstByHigherFigure() {
        told("hundreds ahead of ones", leaning(9, 1019, 1100), 3, 0, 0, 2, 1109);
    }

    private static void otherWayAheadOfAhead() {
        told("SORT 5 ahead of AHEAD's SORT 4", unevenByFifty(60, 10), 2, 0, 0, 5, 10);
    }

    // An ERROR of 50 below 0, so that 100 are off if 50 are booked.
    private static BackToTheFirstStone unevenByFifty(int behind, int ahead) {
        BackToTheFirstStone x = loopBy(new int[] {1, 0, behind, ahead, 1, 57});
        x.ask(1, 9);
        is("18 100 off", x.off(0), 100);
        return x;
    }

    private static void lastOfSixteen() {
        BackToTheFirstStone x = plain(15);
        x.setup(0, 0, 1009, 1006, 1, 1);
        told("last of sixteen", x, 2, 15, 0, 1, 1006);
    }

    // ---- none, and what ----

    private static void none() {
        Maker seven = () -> booked(7);
        is("18 none", seven.make().big(-1), 0);
        for (int what = 0; what <= 3; what++) {
            int asked = what;
            refusedOf(seven, "18 none to tell of " + what, y -> y.big(asked), -5, 5);
        }
    }

    private static void noSetUps() {
        is("18 no set-ups", made().big(-1), 0);
        noneRefused("18", made());
        refusedOf(Checks::made, "18 none of no set-ups", y -> y.big(0), -5, 5);
    }

    private static void whats() {
        for (int what : new int[] {-2, 4, MIN, MAX}) {
            refusedOf(() -> plain(1), "18 what " + what, y -> y.big(what), -5, 5);
            refusedOf(() -> booked(7), "18 what of none " + what, y -> y.big(what), -5, 5);
        }
    }
}
