/** ERRORS, and promises 15 to 17, heights and what is off: each boundary that the document names has a test of its own. */
public final class HeightEdgesTest extends Checks {
    public static void main(String[] args) {
        setupHasNoError();
        unevenIsCut();
        unevenByHair();
        slopeIsTwiceWhatIsCut();
        sinkingByFirst();
        bogIsTwice();
        leaningByBooked();
        noonByBooked();
        noonFromAHundredYards();
        noonLevel();
        riseAcrossLevel();
        heightStones();
        heightOfNone();
        heightFarAboveAndBelow();
        heightTakesRisesAheadOnly();
        offOfNone();
        offAndRaw();
        mayAtSquares();
        mayByFine();
        bigAboveMay();
        bigBelow();
        offWhats();
        spreadEnds();
        spreadOfOne();
        spreadIsCutOnceAboveAndBelow();
        spreadByYardsIsCut();
        spreadBySquaresIsCut();
        spreadFar();
        spreadOfNothingOff();
        spreadLaws();
        spreadStones();
        spreadOfNone();
        end("HeightEdgesTest");
    }

    // The ERROR with what is BOOKED, HAIR and FIRST; RISE is BOOKED less that.
    private static void error(String what, int[] kindAndA, int booked, int[] yards, int due) {
        BackToTheFirstStone x = errorLoop(kindAndA, booked, yards);
        is("10 error: " + what, x.setupOf(0, 9), due);
        is("10 rise: " + what, x.setupOf(0, 10), booked - due);
    }

    private static BackToTheFirstStone errorLoop(int[] kindAndA, int booked, int[] yards) {
        return loopBy(new int[] {kindAndA[0], kindAndA[1], 5000 + booked, 5000, yards[0], yards[1]});
    }

    private static int[] of(int... figures) {
        return figures;
    }

    // ---- 2. HEIGHTS: ERROR ----

    private static void setupHasNoError() {
        error("SETUP", of(0, 9), 100, of(99, 1), 0);
        error("SETUP below", of(0, 9), -100, of(1, 99), 0);
    }

    // HAIR times (YARDS behind less ahead) by 10, cut toward 0.
    private static void unevenIsCut() {
        error("UNEVEN even", of(1, 9), 7, of(50, 50), 0);
        error("UNEVEN by 9", of(1, 9), 7, of(10, 1), 0);
        error("UNEVEN by 10", of(1, 9), 7, of(11, 1), 1);
        error("UNEVEN by 19", of(1, 9), 7, of(20, 1), 1);
        error("UNEVEN by 20", of(1, 9), 7, of(21, 1), 2);
        error("UNEVEN by 9 below", of(1, 9), 7, of(1, 10), 0);
        error("UNEVEN by 10 below", of(1, 9), 7, of(1, 11), -1);
        error("UNEVEN by 19 below", of(1, 9), 7, of(1, 20), -1);
        error("UNEVEN by 20 below", of(1, 9), 7, of(1, 21), -2);
        error("UNEVEN most", of(1, 9), 7, of(99, 1), 9);
    }

    private static void unevenByHair() {
        BackToTheFirstStone x = errorLoop(of(1, 0), 0, of(99, 1));
        x.ask(1, 0);
        is("10 error: HAIR 0", x.setupOf(0, 9), 0);
        x.ask(1, 9);
        is("10 error: HAIR 9", x.setupOf(0, 9), 88);
        BackToTheFirstStone y = errorLoop(of(1, 0), 0, of(1, 99));
        y.ask(1, 9);
        is("10 error: HAIR 9 below", y.setupOf(0, 9), -88);
    }

    private static void slopeIsTwiceWhatIsCut() {
        error("SLOPE even", of(3, 9), 7, of(50, 50), 0);
        error("SLOPE by 9", of(3, 9), 7, of(10, 1), 0);
        error("SLOPE by 10", of(3, 9), 7, of(11, 1), 2);
        error("SLOPE by 19", of(3, 9), 7, of(20, 1), 2);
        error("SLOPE by 9 below", of(3, 9), 7, of(1, 10), 0);
        error("SLOPE by 19 below", of(3, 9), 7, of(1, 20), -2);
        BackToTheFirstStone x = errorLoop(of(3, 0), 0, of(1, 99));
        x.ask(1, 9);
        is("10 error: SLOPE most below", x.setupOf(0, 9), -176);
    }

    private static void sinkingByFirst() {
        error("SINKING by 0", of(2, 0), 7, of(1, 9), 0);
        error("SINKING by 9", of(2, 9), -7, of(1, 9), 9);
        BackToTheFirstStone x = errorLoop(of(2, 9), 7, of(1, 1));
        x.tell(0, 3, 1);
        is("10 error: SINKING, ahead first", x.setupOf(0, 9), -9);
        is("10 rise: SINKING, ahead first", x.setupOf(0, 10), 16);
    }

    private static void bogIsTwice() {
        error("BOG by 0", of(5, 0), 7, of(1, 9), 0);
        error("BOG by 9", of(5, 9), -7, of(1, 9), 18);
        BackToTheFirstStone x = errorLoop(of(5, 9), 7, of(1, 1));
        x.tell(0, 3, 1);
        is("10 error: BOG, ahead first", x.setupOf(0, 9), -18);
    }

    // a above 0, as much below, else 0.
    private static void leaningByBooked() {
        error("LEANING above", of(4, 9), 1, of(50, 50), 9);
        error("LEANING below", of(4, 9), -1, of(50, 50), -9);
        error("LEANING level", of(4, 9), 0, of(50, 50), 0);
        error("LEANING by 0", of(4, 0), 1, of(50, 50), 0);
        BackToTheFirstStone x = errorLoop(of(4, 9), 1, of(1, 1));
        x.tell(0, 3, 1);
        is("10 error: LEANING, ahead first", x.setupOf(0, 9), 9);
    }

    private static void noonByBooked() {
        error("NOON above", of(6, 9), 1, of(1, 1), 9);
        error("NOON below", of(6, 9), -1, of(1, 1), -9);
        error("NOON by 0", of(6, 0), 1, of(1, 1), 0);
    }

    // 1 more (less) if YARDS of both together are 100 at least.
    private static void noonFromAHundredYards() {
        error("NOON of 99", of(6, 9), 1, of(1, 98), 9);
        error("NOON of 100", of(6, 9), 1, of(1, 99), 10);
        error("NOON of 101", of(6, 9), 1, of(99, 2), 10);
        error("NOON of 99 below", of(6, 9), -1, of(50, 49), -9);
        error("NOON of 100 below", of(6, 9), -1, of(50, 50), -10);
        error("NOON of 198", of(6, 9), 1, of(99, 99), 10);
        error("NOON of 100 by 0", of(6, 0), 1, of(50, 50), 1);
        error("NOON of 100 by 0 below", of(6, 0), -1, of(50, 50), -1);
    }

    // Only if BOOKED is not 0.
    private static void noonLevel() {
        error("NOON level", of(6, 9), 0, of(50, 49), 0);
        error("NOON level of 100", of(6, 9), 0, of(50, 50), 0);
    }

    private static void riseAcrossLevel() {
        is("10 rise below 0 of what is booked above", errorLoop(of(4, 9), 1, of(1, 1)).setupOf(0, 10), -8);
        is("10 rise above 0 of what is booked below", errorLoop(of(6, 9), -1, of(50, 50)).setupOf(0, 10), 9);
        is("10 rise 0", errorLoop(of(2, 9), 9, of(1, 1)).setupOf(0, 10), 0);
    }

    // ---- 15 height ----

    // A STONE: 0 to the number of SET-UPS.
    private static void heightStones() {
        BackToTheFirstStone x = booked(5, -7, 9);
        x.ask(0, 100);
        int[] due = {100, 105, 98, 107};
        for (int stone = 0; stone <= 3; stone++) is("15 stone " + stone, x.height(stone), due[stone]);
        is("15 stone 16 of sixteen", plain(16).height(16), 0);
        refused("15 -1", y -> y.height(-1), -1000005, 5);
        refused("15 behind the last", y -> y.height(4), -1000005, 5);
        refused("15 least", y -> y.height(MIN), -1000005, 5);
        refused("15 greatest", y -> y.height(MAX), -1000005, 5);
        refusedOf(() -> plain(16), "15 stone 17", y -> y.height(17), -1000005, 5);
    }

    private static void heightOfNone() {
        BackToTheFirstStone x = made();
        x.ask(0, -9999);
        is("15 stone 0 of no set-ups", x.height(0), -9999);
        refusedOf(Checks::made, "15 stone 1 of no set-ups", y -> y.height(1), -1000005, 5);
        BackToTheFirstStone y = plain(1);
        y.drop();
        is("15 behind what was dropped", y.height(1), -1000005);
    }

    private static void heightFarAboveAndBelow() {
        BackToTheFirstStone up = made();
        BackToTheFirstStone down = made();
        up.ask(0, 9999);
        down.ask(0, -9999);
        for (int i = 0; i < 16; i++) {
            up.setup(0, 0, 9999, 0, 1, 1);
            down.setup(5, 9, 0, 9999, 1, 1);
        }
        is("15 greatest", up.height(16), 17 * 9999);
        is("15 least", down.height(16), -9999 - 16 * (9999 + 18));
    }

    private static void heightTakesRisesAheadOnly() {
        BackToTheFirstStone x = booked(1, 20, 300, 4000);
        is("15 of stone 0", x.height(0), 0);
        is("15 of stone 2", x.height(2), 21);
        is("15 of the last stone", x.height(4), 4321);
        x.tell(2, 0, 0);
        is("15 of one ahead of a change", x.height(2), 21);
        is("15 of one behind a change", x.height(3), 21);
    }

    // ---- 16 off ----

    private static void offOfNone() {
        for (int what = 0; what <= 3; what++) is("16 of no set-ups, what " + what, made().off(what), 0);
    }

    private static void offAndRaw() {
        BackToTheFirstStone x = errorLoop(of(2, 9), 5, of(1, 1));
        is("16 OFF", x.off(0), -4);
        is("16 RAW", x.off(1), 5);
        x.ask(0, 77);
        is("16 OFF without START", x.off(0), -4);
        is("16 RAW without START", x.off(1), 5);
        is("16 OFF 0", booked(7, -7).off(0), 0);
        is("16 OFF is above 0", booked(7, -6).off(0), 1);
        is("16 OFF is below 0", booked(6, -7).off(0), -1);
    }

    // The greatest whole number whose square isn't above the number of SET-UPS.
    private static void mayAtSquares() {
        int[] setUps = {0, 1, 2, 3, 4, 5, 8, 9, 10, 15, 16};
        int[] root = {0, 1, 1, 1, 2, 2, 2, 3, 3, 3, 4};
        for (int i = 0; i < setUps.length; i++) {
            is("16 MAY of " + setUps[i], plain(setUps[i]).off(2), 5 * root[i]);
        }
    }

    private static void mayByFine() {
        BackToTheFirstStone x = plain(16);
        x.ask(2, 1);
        is("16 MAY least FINE", x.off(2), 4);
        x.ask(2, 99);
        is("16 MAY greatest FINE", x.off(2), 396);
        BackToTheFirstStone none = made();
        none.ask(2, 99);
        is("16 MAY of none", none.off(2), 0);
    }

    // BIG: OFF is above MAY.
    private static void bigAboveMay() {
        is("16 OFF as MAY", booked(5).off(3), 0);
        is("16 OFF one above MAY", booked(6).off(3), 1);
        is("16 OFF as MAY of three", booked(5, 0, 0).off(3), 0);
        is("16 OFF above MAY of three", booked(6, 0, 0).off(3), 1);
        is("16 OFF as MAY of four", booked(10, 0, 0, 0).off(3), 0);
        is("16 OFF above MAY of four", booked(11, 0, 0, 0).off(3), 1);
        is("16 OFF 0", booked(0).off(3), 0);
    }

    // Whatever its sign.
    private static void bigBelow() {
        is("16 OFF as MAY below", booked(-5).off(3), 0);
        is("16 OFF one below MAY", booked(-6).off(3), 1);
    }

    private static void offWhats() {
        refused("16 what -1", y -> y.off(-1), -1000005, 5);
        refused("16 what 4", y -> y.off(4), -1000005, 5);
        refused("16 what least", y -> y.off(MIN), -1000005, 5);
        refused("16 what greatest", y -> y.off(MAX), -1000005, 5);
        refusedOf(Checks::made, "16 what of no set-ups", y -> y.off(4), -1000005, 5);
    }

    // ---- 17 spread ----

    // STONE 0 has no share, at the end all of OFF is gone.
    private static void spreadEnds() {
        BackToTheFirstStone x = booked(50, -3, 20);
        x.ask(0, 100);
        for (int law = 0; law <= 2; law++) {
            is("17 stone 0 by " + law, x.spread(law, 0), 100);
            is("17 the end by " + law, x.spread(law, 3), 100);
        }
    }

    private static void spreadOfOne() {
        BackToTheFirstStone x = booked(-7);
        for (int law = 0; law <= 2; law++) {
            is("17 one, stone 0 by " + law, x.spread(law, 0), 0);
            is("17 one, stone 1 by " + law, x.spread(law, 1), 0);
        }
    }

    // Cut once, of the whole quotient: 11 * 2 / 3 is 7, not twice 3.
    private static void spreadIsCutOnceAboveAndBelow() {
        BackToTheFirstStone up = booked(11, 0, 0);
        is("17 cut above, first stone", up.spread(0, 1), 11 - 3);
        is("17 cut above, second stone", up.spread(0, 2), 11 - 7);
        BackToTheFirstStone down = booked(-11, 0, 0);
        is("17 cut below, first stone", down.spread(0, 1), -11 + 3);
        is("17 cut below, second stone", down.spread(0, 2), -11 + 7);
    }

    // Yards 2 of 200: 99 comes to none yet, 100 to one.
    private static void spreadByYardsIsCut() {
        int[] off = {99, 100, 199, 200, -99, -100, -199, -200};
        int[] share = {0, 1, 1, 2, 0, -1, -1, -2};
        for (int i = 0; i < off.length; i++) is("17 by yards " + off[i], twoYardsAhead(off[i]).spread(1, 1), off[i] - share[i]);
    }

    // Squares 4 of 39208.
    private static void spreadBySquaresIsCut() {
        int[] off = {9801, 9802, -9801, -9802};
        int[] share = {0, 1, 0, -1};
        for (int i = 0; i < off.length; i++) is("17 by squares " + off[i], twoYardsAhead(off[i]).spread(2, 1), off[i] - share[i]);
    }

    private static BackToTheFirstStone twoYardsAhead(int off) {
        return loopBy(new int[] {0, 0, Math.max(off, 0), Math.max(-off, 0), 1, 1}, new int[] {0, 0, 0, 0, 99, 99});
    }

    private static void spreadFar() {
        BackToTheFirstStone up = made();
        BackToTheFirstStone down = made();
        for (int i = 0; i < 16; i++) {
            up.setup(0, 0, 9999, 0, 99, 99);
            down.setup(0, 0, 0, 9999, 99, 99);
        }
        for (int law = 0; law <= 2; law++) {
            for (int stone = 0; stone <= 16; stone++) {
                is("17 far above by " + law + " stone " + stone, up.spread(law, stone), 0);
                is("17 far below by " + law + " stone " + stone, down.spread(law, stone), 0);
            }
        }
    }

    private static void spreadOfNothingOff() {
        BackToTheFirstStone x = booked(7, -7);
        for (int law = 0; law <= 2; law++) is("17 nothing off by " + law, x.spread(law, 1), 7);
    }

    // Laws 0 to 2: 1 each, YARDS of both, the square of these.
    private static void spreadLaws() {
        BackToTheFirstStone x = loopBy(new int[] {0, 0, 1000, 0, 10, 20}, new int[] {0, 0, 0, 0, 30, 40});
        is("17 law 0", x.spread(0, 1), 1000 - 500);
        is("17 law 1", x.spread(1, 1), 1000 - 300);
        is("17 law 2", x.spread(2, 1), 1000 - 155);
        refused("17 law -1", y -> y.spread(-1, 0), -1000005, 5);
        refused("17 law 3", y -> y.spread(3, 0), -1000005, 5);
        refused("17 law least", y -> y.spread(MIN, 0), -1000005, 5);
        refused("17 law greatest", y -> y.spread(MAX, 0), -1000005, 5);
    }

    private static void spreadStones() {
        is("17 stone 16 of sixteen", plain(16).spread(2, 16), 0);
        refused("17 stone -1", y -> y.spread(0, -1), -1000005, 5);
        refused("17 behind the last", y -> y.spread(0, 4), -1000005, 5);
        refused("17 stone least", y -> y.spread(0, MIN), -1000005, 5);
        refused("17 stone greatest", y -> y.spread(0, MAX), -1000005, 5);
        refusedOf(() -> plain(16), "17 stone 17", y -> y.spread(0, 17), -1000005, 5);
    }

    private static void spreadOfNone() {
        refusedOf(Checks::made, "17 no set-ups", y -> y.spread(0, 0), -1000005, 5);
        refusedOf(Checks::made, "17 no set-ups, stone 1", y -> y.spread(0, 1), -1000005, 5);
    }
}
