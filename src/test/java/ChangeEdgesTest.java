/** Promises 30 to 38, what changes a loop, acts, images, counts: each boundary that the document names has its test. */
public final class ChangeEdgesTest extends Checks {
    public static void main(String[] args) {
        dropToNone();
        dropOneOfSixteen();
        dropEmptiesItsShelves();
        droppedCountsNoMore();
        turnOfNone();
        turnOfOne();
        turnOfTwoAndThree();
        turnOfSixteen();
        turnErrors();
        turnLeavesShelvesAndSettings();
        turnTwice();
        seasonsLeastAndMost();
        seasonsBeyond();
        seasonsOfNone();
        seasonsDrawThreeTimes();
        seasonsBehindAtItsEnds();
        seasonsAheadFromAHundred();
        seasonsAheadByNoOtherDraw();
        seasonsDrawSetUps();
        seasonsDrawsHaveNoSign();
        seasonsOffThen();
        seedTakesAll();
        seedWraps();
        actWraps();
        actOfTheLast();
        actOfNoSetUp();
        actOfNoAct();
        traceBeforeAnyAct();
        traceEnds();
        traceOfTheLatest();
        traceOfTheLongest();
        imageOfNone();
        imageOfSixteen();
        imageOfTheLatest();
        imageStaysAsItWas();
        restoreWithoutImage();
        restoreTwice();
        restoreFigures();
        restoreLeavesTheRest();
        restoreAndShelves();
        statusWhats();
        statusOtherWhats();
        statusYards();
        statusCountsEachRefusal();
        statusCountsEveryTime();
        callsThatRefuseNothing();
        end("ChangeEdgesTest");
    }

    // ---- 30 drop ----

    private static void dropToNone() {
        BackToTheFirstStone x = plain(2);
        is("30 one left", x.drop(), 1);
        is("30 none left", x.drop(), 0);
        noneRefused("30", x);
        refusedOf(Checks::made, "30 none there", y -> y.drop(), -6, 6);
        refusedOf(ChangeEdgesTest::allDropped, "30 none there any more", y -> y.drop(), -6, 6);
    }

    private static BackToTheFirstStone allDropped() {
        BackToTheFirstStone x = plain(1);
        x.drop();
        return x;
    }

    private static void dropOneOfSixteen() {
        BackToTheFirstStone x = plain(16);
        x.tell(14, 0, 7);
        is("30 fifteen left", x.drop(), 15);
        is("30 the last now", x.setupOf(14, 2), 7);
        is("30 the dropped one", x.setupOf(15, 2), -1000005);
    }

    // SHELVES that hold it hold NOTHING, the others what they held.
    private static void dropEmptiesItsShelves() {
        BackToTheFirstStone x = plain(2);
        x.show(0, 1);
        x.show(7, 1);
        x.show(3, 0);
        x.row(4, 2, 1);
        x.drop();
        is("30 first shelf", x.holds(0), -1);
        is("30 last shelf", x.holds(7), -1);
        is("30 another's shelf", x.holds(3), 0);
        is("30 a row's shelf", x.holds(4), 102);
        x.setup(0, 0, 1, 1, 1, 1);
        is("30 not again with another of its number", x.holds(0), -1);
        x.drop();
        x.drop();
        is("30 the last one's shelf", x.holds(3), -1);
    }

    // Whatever is asked then: as if it never had been, also if it is gone by an image.
    private static void droppedCountsNoMore() {
        int[] small = {5, 2, 1010, 1000, 3, 4};
        int[] steep = {5, 9, 9999, 0, 99, 99};
        long[] due = outcomes(loopBy(small, small));
        BackToTheFirstStone dropped = loopBy(small, small, steep);
        dropped.tell(2, 2, 1);
        dropped.drop();
        same("30 dropped", outcomes(dropped), due);
        BackToTheFirstStone restored = loopBy(small, small);
        restored.image();
        for (int i = 2; i < 16; i++) restored.setup(5, 9, 9999, 0, 99, 99);
        for (int i = 2; i < 16; i++) restored.tell(i, 2, 1);
        restored.restore();
        same("37 restored", outcomes(restored), due);
        same("30 dropped to none", outcomes(allDropped()), outcomes(made()));
    }

    private static void same(String what, long[] got, long[] due) {
        is(what + ", how many answers", got.length, due.length);
        for (int i = 0; i < due.length; i++) is(what + ", answer " + i, got[i], due[i]);
    }

    private static long[] outcomes(BackToTheFirstStone x) {
        x.row(0, 2, 16);
        return new long[] {
            x.status(0), x.status(1), x.hours(), x.height(0), x.height(1), x.height(2), x.height(3),
            x.off(0), x.off(1), x.off(2), x.off(3), x.spread(0, 1), x.spread(1, 2), x.spread(2, 1), x.spread(0, 3),
            x.big(-1), x.big(0), x.parts(0, 0), x.parts(0, 1), x.again(7), x.again(14), x.again(MAX),
            x.order(0), x.order(1), x.meet(1, 7, 0), x.meet(1, 7, 1), x.meet(2, 7, 1), x.crooked(0), x.crooked(1),
            x.most(0), x.most(1), x.show(1, 2), x.setupOf(2, 0), x.tell(2, 0, 0), x.act(2, 0, 1), x.image(),
            x.turn(), x.off(1), x.seasons(9), x.status(5), x.drop(), x.restore(), x.height(2)};
    }

    // ---- 31 turn ----

    private static void turnOfNone() {
        BackToTheFirstStone x = made();
        is("31 none", x.turn(), 0);
        is("31 none then", x.status(0), 0);
        noneRefused("31", x);
    }

    private static void figures(String what, BackToTheFirstStone x, int setUp, int... due) {
        for (int i = 0; i < due.length; i++) is(what + ", what " + i, x.setupOf(setUp, i), due[i]);
    }

    private static void turnOfOne() {
        BackToTheFirstStone x = loopBy(new int[] {6, 5, 4, 3, 2, 1});
        x.tell(0, 2, 3);
        is("31 one", x.turn(), -1 + 5);
        figures("31 one", x, 0, 6, 5, 3, 4, 1, 2, 3, 1);
    }

    private static void turnOfTwoAndThree() {
        BackToTheFirstStone two = loopBy(new int[] {1, 1, 10, 20, 3, 4}, new int[] {2, 2, 30, 40, 5, 6});
        two.turn();
        figures("31 of two the first", two, 0, 2, 2, 40, 30, 6, 5, 0, 1);
        figures("31 of two the last", two, 1, 1, 1, 20, 10, 4, 3, 0, 1);
        BackToTheFirstStone three = booked(1, 2, 3);
        three.tell(1, 3, 1);
        three.turn();
        figures("31 of three the first", three, 0, 0, 0, 0, 3, 1, 1, 0, 1);
        figures("31 of three the one between", three, 1, 0, 0, 0, 2, 1, 1, 0, 0);
        figures("31 of three the last", three, 2, 0, 0, 0, 1, 1, 1, 0, 1);
    }

    private static void turnOfSixteen() {
        BackToTheFirstStone x = made();
        for (int i = 0; i < 16; i++) x.setup(0, 0, i, 100 + i, 1 + i, 50 + i);
        is("31 sixteen", x.turn(), 1600);
        for (int i = 0; i < 16; i++) {
            figures("31 of sixteen " + i, x, i, 0, 0, 115 - i, 15 - i, 65 - i, 16 - i, 0, 1);
        }
    }

    // OFF then: what sinks has the other sign, what leans and is uneven, too.
    private static void turnErrors() {
        is("31 sinks", loopBy(new int[] {2, 9, 0, 0, 1, 1}).turn(), 9);
        is("31 leans", loopBy(new int[] {4, 9, 5, 0, 1, 1}).turn(), 4);
        is("31 uneven", loopBy(new int[] {1, 9, 5, 0, 99, 1}).turn(), 4);
        is("31 level", loopBy(new int[] {6, 9, 5, 5, 99, 1}).turn(), 0);
    }

    // SHELVES with SET-UPS hold those of the same numbers.
    private static void turnLeavesShelvesAndSettings() {
        BackToTheFirstStone x = loopBy(new int[] {2, 1, 0, 0, 1, 1}, new int[] {5, 2, 0, 0, 1, 1});
        x.show(0, 0);
        x.show(1, 1);
        x.ask(0, 77);
        x.turn();
        is("31 shelf of the first", x.holds(0), 0);
        is("31 says the one of that number", x.says(0, 2), 4);
        is("31 shelf of the last", x.holds(1), 1);
        is("31 START", x.status(2), 77);
        is("31 SEED", x.status(5), 1);
    }

    private static void turnTwice() {
        BackToTheFirstStone x = sample();
        x.turn();
        is("31 twice", x.turn(), 16);
        figures("31 twice, the first", x, 0, 0, 0, 1500, 1400, 30, 40, 0, 0);
        figures("31 twice, the last", x, 2, 4, 2, 1000, 1020, 50, 60, 0, 1);
    }

    // ---- 32 seasons ----

    // SEED times 1103515245, and 12345, of an int, wrapping.
    private static int next(int seed) {
        return (int) (seed * 1103515245L + 12345L);
    }

    private static int drawn(int seed, int n) {
        return (int) ((next(seed) & 0xFFFFFFFFL) / 65536 % n);
    }

    private static int afterDraws(int seed, int draws) {
        int after = seed;
        for (int i = 0; i < draws; i++) after = next(after);
        return after;
    }

    // A SEED by which the only SET-UP's BEHIND is by so much more and AHEAD's DRAW is that.
    private static int seedFor(int more, int aheadDraw) {
        int seed = 0;
        while (drawn(next(seed), 3) - 1 != more || drawn(afterDraws(seed, 2), 20) != aheadDraw) seed++;
        return seed;
    }

    private static void season(String what, int seed, int behind, int ahead, int behindThen, int aheadThen) {
        BackToTheFirstStone x = loopBy(new int[] {0, 0, behind, ahead, 1, 1});
        x.seed(seed);
        is("32 OFF: " + what, x.seasons(1), behindThen - aheadThen);
        is("32 BEHIND: " + what, x.setupOf(0, 2), behindThen);
        is("32 AHEAD: " + what, x.setupOf(0, 3), aheadThen);
    }

    private static void seasonsLeastAndMost() {
        BackToTheFirstStone x = plain(1);
        x.seasons(1);
        is("32 one", x.status(5), afterDraws(1, 3));
        x.seed(1);
        x.seasons(60);
        is("32 sixty", x.status(5), afterDraws(1, 180));
        noneRefused("32", x);
    }

    private static void seasonsBeyond() {
        for (int n : new int[] {0, 61, -1, MIN, MAX}) {
            refused("32 n " + n, y -> y.seasons(n), -1000006, 6);
        }
    }

    private static void seasonsOfNone() {
        refusedOf(Checks::made, "32 no set-ups", y -> y.seasons(1), -1000005, 5);
        refusedOf(Checks::made, "32 no set-ups ahead of n 0", y -> y.seasons(0), -1000005, 5);
        refusedOf(Checks::made, "32 no set-ups ahead of n 61", y -> y.seasons(61), -1000005, 5);
    }

    // Also where there is one SET-UP alone, and whatever the DRAWS are.
    private static void seasonsDrawThreeTimes() {
        for (int n = 1; n <= 16; n++) {
            BackToTheFirstStone x = plain(n);
            x.seasons(2);
            is("32 draws among " + n, x.status(5), afterDraws(1, 6));
        }
    }

    // 0 at least, 9999 at most.
    private static void seasonsBehindAtItsEnds() {
        season("0 and one less", seedFor(-1, 5), 0, 5, 0, 5);
        season("1 and one less", seedFor(-1, 5), 1, 5, 0, 5);
        season("0 and as it was", seedFor(0, 5), 0, 5, 0, 5);
        season("0 and one more", seedFor(1, 5), 0, 5, 1, 5);
        season("9999 and one more", seedFor(1, 5), 9999, 5, 9999, 5);
        season("9998 and one more", seedFor(1, 5), 9998, 5, 9999, 5);
        season("9999 and as it was", seedFor(0, 5), 9999, 5, 9999, 5);
        season("9999 and one less", seedFor(-1, 5), 9999, 5, 9998, 5);
    }

    // 100 less, if it is 100 at least.
    private static void seasonsAheadFromAHundred() {
        season("AHEAD 100", seedFor(0, 0), 5, 100, 5, 0);
        season("AHEAD 101", seedFor(0, 0), 5, 101, 5, 1);
        season("AHEAD 99", seedFor(0, 0), 5, 99, 5, 99);
        season("AHEAD 0", seedFor(0, 0), 5, 0, 5, 0);
        season("AHEAD 9999", seedFor(1, 0), 5, 9999, 6, 9899);
    }

    private static void seasonsAheadByNoOtherDraw() {
        for (int draw = 1; draw < 20; draw++) season("AHEAD by draw " + draw, seedFor(0, draw), 5, 100, 5, 100);
    }

    private static void seasonsDrawSetUps() {
        for (int at = 0; at < 16; at++) {
            int seed = 0;
            while (drawn(seed, 16) != at || drawn(next(seed), 3) != 2 || drawn(afterDraws(seed, 2), 20) == 0) seed++;
            BackToTheFirstStone x = plain(16);
            x.seed(seed);
            is("32 among sixteen, off", x.seasons(1), 1);
            is("32 among sixteen, set-up " + at, x.setupOf(at, 2), 1001);
        }
    }

    // The upper 16 bits, no sign.
    private static void seasonsDrawsHaveNoSign() {
        int seed = -1;
        while (next(seed) >= 0 || drawn(seed, 3) == 0 || drawn(seed, 3) == Math.abs((next(seed) >> 16) % 3)) seed--;
        BackToTheFirstStone x = plain(3);
        x.seed(seed);
        int more = drawn(next(seed), 3) - 1;
        x.seasons(1);
        is("32 no sign", x.setupOf(drawn(seed, 3), 2), 1000 + more);
        is("32 SEED below 0 wraps", x.status(5), afterDraws(seed, 3));
    }

    private static void seasonsOffThen() {
        BackToTheFirstStone x = sample();
        int off = x.seasons(60);
        is("32 OFF then", off, x.off(0));
        is("32 as the stones have it", off, x.height(3) - x.height(0));
    }

    // ---- 33 seed ----

    private static void seedTakesAll() {
        BackToTheFirstStone x = made();
        int[] seeds = {0, -1, MIN, MAX, 1};
        int was = 1;
        for (int seed : seeds) {
            is("33 was", x.seed(seed), was);
            is("33 is", x.status(5), seed);
            was = seed;
        }
        noneRefused("33", x);
    }

    private static void seedWraps() {
        for (int seed : new int[] {0, MAX, MIN, -1}) {
            BackToTheFirstStone x = plain(1);
            x.seed(seed);
            x.seasons(1);
            is("33 wraps from " + seed, x.status(5), afterDraws(seed, 3));
        }
    }

    // ---- 34 act ----

    private static void acted(String what, int kind, int k, int act, int x, int due) {
        BackToTheFirstStone loop = loopBy(new int[] {kind, k, 1, 1, 1, 1});
        is("34 " + what, loop.act(0, act, x), due);
    }

    private static void actWraps() {
        is("34 reads: x + m", plain(2).act(1, 0, MAX), MIN);
        acted("sinks: * 2", 0, 0, 1, 1 << 30, MIN);
        acted("closes: x - k", 0, 1, 2, MIN, MAX);
        acted("UNEVEN reads: + k", 1, 1, 0, MAX, MIN);
        acted("SINKING sinks: * 3", 2, 0, 1, 1 << 29, -(1 << 30));
        acted("SLOPE sinks: x + 1", 3, 0, 1, MAX, 0);
        acted("SLOPE sinks: x + 1, + k", 3, 9, 1, MAX, 18);
        acted("LEANING closes: - of the least", 4, 0, 2, MIN, MIN);
        acted("BOG closes", 5, 0, 2, MIN, MIN ^ 5);
        acted("NOON reads: * 2", 6, 0, 0, 1 << 30, MIN);
        acted("NOON sinks: x - k", 6, 1, 1, MIN, -4);
        BackToTheFirstStone leaning = loopBy(new int[] {0, 0, 1, 1, 1, 1}, new int[] {4, 0, 1, 1, 1, 1});
        is("34 LEANING reads: + m - m", leaning.act(1, 0, MAX), MAX);
    }

    private static void actOfTheLast() {
        BackToTheFirstStone x = plain(15);
        x.setup(1, 9, 1, 1, 1, 1);
        is("34 the last of sixteen", x.act(15, 0, 100), 100 + 15 + 9);
        is("34 its bodies", x.status(6), 2);
    }

    // 0, and no TRACE then; nothing is refused.
    private static void noAct(String what, BackToTheFirstStone x, int setUp, int act) {
        if (x.status(0) > 0) x.act(0, 2, 5);
        is("34 " + what, x.act(setUp, act, 5), 0);
        is("35 no TRACE of " + what, x.trace(0), -1);
        is("38 no bodies of " + what, x.status(6), 0);
        noneRefused("34 " + what, x);
    }

    private static void actOfNoSetUp() {
        noAct("set-up -1", plain(2), -1, 0);
        noAct("set-up 2 of two", plain(2), 2, 0);
        noAct("set-up 16 of sixteen", plain(16), 16, 0);
        noAct("set-up 0 of none", made(), 0, 0);
        noAct("set-up least", plain(2), MIN, 0);
        noAct("set-up greatest", plain(2), MAX, 0);
    }

    private static void actOfNoAct() {
        noAct("act -1", plain(2), 1, -1);
        noAct("act 3", plain(2), 1, 3);
        noAct("act least", plain(2), 1, MIN);
        noAct("act greatest", plain(2), 1, MAX);
        noAct("neither", plain(2), 2, 3);
    }

    // ---- 35 trace ----

    private static void traceBeforeAnyAct() {
        is("35 none yet", made().trace(0), -1);
        is("35 none yet of some set-ups", plain(2).trace(0), -1);
        noneRefused("35", made());
    }

    private static void traceEnds() {
        BackToTheFirstStone x = plain(1);
        x.act(0, 1, 5);
        is("35 first", x.trace(0), 11);
        is("35 last", x.trace(1), 10);
        int[] others = {2, -1, 19, 20, 21, MIN, MAX};
        for (int i : others) is("35 at " + i, x.trace(i), -1);
        noneRefused("35", x);
    }

    private static void traceOfTheLatest() {
        BackToTheFirstStone x = plain(1);
        x.act(0, 2, 5);
        x.act(0, 0, 5);
        is("35 the latest", x.trace(0), 10);
        is("35 nothing of the one ahead", x.trace(1), -1);
        is("38 bodies of the latest", x.status(6), 1);
    }

    // Ten bodies are the most that run: all are kept.
    private static void traceOfTheLongest() {
        BackToTheFirstStone x = loopBy(new int[] {6, 3, 1, 1, 1, 1});
        x.act(0, 2, 5);
        int[] due = {50, 12, 71, 11, 70, 51, 10, 70, 51, 10, -1};
        for (int i = 0; i < due.length; i++) is("35 the longest, " + i, x.trace(i), due[i]);
        is("38 bodies of the longest", x.status(6), 10);
    }

    // ---- 36 image, 37 restore ----

    private static void imageOfNone() {
        BackToTheFirstStone x = made();
        is("36 of none", x.image(), 0);
        x.setup(0, 0, 1, 1, 1, 1);
        x.show(0, 0);
        is("37 to none", x.restore(), 0);
        is("37 none", x.status(0), 0);
        is("37 its shelf", x.holds(0), -1);
        noneRefused("36", x);
    }

    private static void imageOfSixteen() {
        BackToTheFirstStone x = plain(16);
        x.tell(15, 0, 7);
        is("36 of sixteen", x.image(), 16);
        for (int i = 0; i < 16; i++) x.drop();
        is("37 to sixteen", x.restore(), 16);
        is("37 the last of sixteen", x.setupOf(15, 2), 7);
        is("37 the first of sixteen", x.setupOf(0, 2), 1000);
    }

    private static void imageOfTheLatest() {
        BackToTheFirstStone x = plain(1);
        x.image();
        x.tell(0, 0, 7);
        is("36 another", x.image(), 1);
        x.tell(0, 0, 8);
        x.restore();
        is("37 the latest", x.setupOf(0, 2), 7);
    }

    private static void imageStaysAsItWas() {
        BackToTheFirstStone x = plain(2);
        x.image();
        x.tell(0, 0, 7);
        x.tell(0, 2, 3);
        x.ask(0, 7);
        x.turn();
        x.seasons(60);
        x.restore();
        x.tell(1, 0, 9);
        x.seed(9);
        x.ask(2, 9);
        is("37 again", x.restore(), 2);
        figures("37 first", x, 0, 0, 0, 1000, 1000, 1, 1, 0, 0);
        figures("37 second", x, 1, 0, 0, 1000, 1000, 1, 1, 0, 0);
        is("37 START", x.status(2), 0);
        is("37 FINE", x.status(4), 5);
        is("37 SEED", x.status(5), 1);
    }

    private static void restoreWithoutImage() {
        refusedOf(Checks::made, "37 there is none", y -> y.restore(), -6, 6);
        refusedOf(() -> plain(16), "37 there is none of sixteen", y -> y.restore(), -6, 6);
    }

    private static void restoreTwice() {
        BackToTheFirstStone x = plain(2);
        x.image();
        is("37 as it is", x.restore(), 2);
        x.drop();
        is("37 one dropped", x.restore(), 2);
        is("37 and once more", x.restore(), 2);
        noneRefused("37", x);
    }

    // All but SHELVES, THE IMAGE, REFUSALS, the FAULT, THE TRACE.
    private static void restoreFigures() {
        BackToTheFirstStone x = loopBy(new int[] {6, 5, 4, 3, 2, 1});
        x.tell(0, 2, 3);
        x.tell(0, 3, 1);
        x.ask(0, -9999);
        x.ask(1, 9);
        x.ask(2, 99);
        x.seed(MIN);
        x.image();
        x.drop();
        x.setup(0, 0, 1, 1, 1, 1);
        for (int what = 0; what <= 2; what++) x.ask(what, 1);
        x.seed(5);
        x.restore();
        figures("37 all", x, 0, 6, 5, 4, 3, 2, 1, 3, 1);
        is("37 START below 0", x.status(2), -9999);
        is("37 HAIR", x.status(3), 9);
        is("37 FINE", x.status(4), 99);
        is("37 SEED least", x.status(5), MIN);
    }

    private static void restoreLeavesTheRest() {
        BackToTheFirstStone x = plain(1);
        x.row(0, 2, 2);
        x.image();
        x.set(0, 1, 7);
        x.row(1, 1, 1);
        loopOf(x, "hair #");
        x.act(0, 1, 5);
        x.set(0, 2, 7);
        x.restore();
        is("37 an element", x.element(0, 1), 7);
        is("37 a row", x.holds(1), 101);
        is("37 the FAULT", x.fault(), 5);
        is("37 THE TRACE", x.trace(0), 11);
        is("37 bodies", x.status(6), 2);
        is("37 refusals -5", x.status(15), 1);
        is("37 refusals -6", x.status(16), 1);
    }

    // SHELVES with SET-UPS hold those of these numbers, or NOTHING.
    private static void restoreAndShelves() {
        BackToTheFirstStone x = plain(2);
        x.image();
        x.setup(0, 0, 1, 1, 1, 1);
        x.show(0, 0);
        x.show(1, 1);
        x.show(2, 2);
        x.tell(1, 0, 7);
        x.restore();
        is("37 the first's shelf", x.holds(0), 0);
        is("37 the last's shelf", x.holds(1), 1);
        is("37 the shelf of one that is no more", x.holds(2), -1);
        x.drop();
        x.restore();
        is("37 one that was emptied stays so", x.holds(1), -1);
        for (int i = 2; i < 16; i++) x.setup(0, 0, 1, 1, 1, 1);
        for (int s = 0; s < SHELVES; s++) x.show(s, 15 - s);
        x.restore();
        for (int s = 0; s < SHELVES; s++) is("37 shelves of those that are no more, " + s, x.holds(s), -1);
    }

    // ---- 38 status ----

    private static void statusWhats() {
        BackToTheFirstStone x = sample();
        int[] due = {3, 210, -70, 1, 5, 99, 3};
        for (int what = 0; what <= 6; what++) is("38 what " + what, x.status(what), due[what]);
        x.ask(0, -1);
        is("38 START -1", x.status(2), -1);
        x.seed(-1);
        is("38 SEED -1", x.status(5), -1);
        noneRefused("38", x);
    }

    private static void statusOtherWhats() {
        BackToTheFirstStone x = sample();
        for (int what : new int[] {-1, 7, 8, 9, 10, 18, 19, MIN, MAX}) is("38 what " + what, x.status(what), -1);
        noneRefused("38", x);
    }

    private static void statusYards() {
        is("38 no yards", made().status(1), 0);
        is("38 least yards", plain(1).status(1), 2);
        BackToTheFirstStone x = made();
        for (int i = 0; i < 16; i++) x.setup(0, 0, 1, 1, 99, 99);
        is("38 most yards", x.status(1), 3168);
        x.drop();
        is("38 yards of one less", x.status(1), 2970);
    }

    private static void statusCountsEachRefusal() {
        Maker full = () -> plain(16);
        refusedOf(full, "38 -1", y -> y.row(8, 0, 0), -1, 1);
        refusedOf(Checks::sample, "38 -2", y -> y.set(2, 0, 0), -2, 2);
        refusedOf(full, "38 -3", y -> y.set(0, 0, 0), -3, 3);
        refusedOf(full, "38 -4", y -> y.row(0, 0, -1), -4, 4);
        refusedOf(full, "38 -5", y -> y.most(2), -5, 5);
        refusedOf(full, "38 -6", y -> y.tell(0, 0, -1), -6, 6);
        refusedOf(full, "38 -7", y -> y.row(0, 0, 161), -7, 7);
    }

    private static void statusCountsEveryTime() {
        BackToTheFirstStone x = made();
        for (int i = 1; i <= 200; i++) {
            x.off(4);
            x.again(-1);
        }
        is("38 two hundred -5", x.status(15), 200);
        is("38 two hundred -6", x.status(16), 200);
        is("38 no -4", x.status(14), 0);
    }

    private static void callsThatRefuseNothing() {
        BackToTheFirstStone x = made();
        is("5 nothing", x.element(8, 0), 0);
        is("7 nothing", x.holds(8), -1);
        is("14 nothing", x.fault(), -1);
        is("26 nothing", x.hours(), 0);
        is("31 nothing", x.turn(), 0);
        is("33 nothing", x.seed(1), 1);
        is("34 nothing", x.act(0, 0, 0), 0);
        is("35 nothing", x.trace(-1), -1);
        is("36 nothing", x.image(), 0);
        is("38 nothing", x.status(-1), -1);
        noneRefused("38 calls that refuse nothing", x);
    }
}
