/** Promises 19 to 26, what comes of a loop: each boundary that the document names has a test of its own. */
public final class OutcomeEdgesTest extends Checks {
    private static final long NOT_KNOWN = -32768;

    public static void main(String[] args) {
        partsOfOne();
        partsNoneKnown();
        partsAllKnown();
        partsFirstAndLastKnown();
        partsStoneZeroIsStart();
        partsNotKnownAndItsNeighbours();
        partsOfSeveralTheFirst();
        partsHasItsSign();
        partsLowestBits();
        partsRowsOfOtherSorts();
        partsRowSizes();
        partsWhats();
        partsRefusalsInOrder();
        againByYards();
        againOfNone();
        againOfSixteen();
        againWeightsOfKinds();
        againWeightsTogether();
        againOfSeveralTheFirst();
        againRefusals();
        orderOfNone();
        orderOfOne();
        orderOfSeveralTheLeast();
        orderToNothing();
        orderOfSixteen();
        orderBitsOfTheLast();
        orderFirstAside();
        orderWhats();
        meetStones();
        meetHeights();
        meetIsCut();
        meetFar();
        meetWhats();
        meetRefusalsInOrder();
        roseNone();
        roseOneOfEach();
        roseOfTwo();
        roseThereIsNone();
        roseSizes();
        roseLooksAtNoMore();
        roseSortsAndBits();
        roseRefusals();
        roseRefusalsInOrder();
        crookedHolders();
        crookedOfSeveralTheFirst();
        crookedLevel();
        crookedWhats();
        longest();
        steepest();
        mostWhats();
        hours();
        end("OutcomeEdgesTest");
    }

    // ---- 19 parts ----

    // 1000 times the part's first STONE and by how much, of a loop with little off.
    private static void parts(String what, BackToTheFirstStone x, int sort, int stone, int by, long... heights) {
        fill(x, 0, sort, heights);
        is("19 stone: " + what, x.parts(0, 0), stone);
        is("19 by: " + what, x.parts(0, 1), by);
        noneRefused("19 " + what, x);
    }

    private static void partsOfOne() {
        parts("one part of one set-up", booked(7), 2, 0, 7, 0);
        parts("one part of one set-up below", booked(-7), 2, 0, -7, NOT_KNOWN);
    }

    private static void partsNoneKnown() {
        parts("none known", booked(7, -3, 2), 2, 0, 6, NOT_KNOWN, NOT_KNOWN, NOT_KNOWN);
    }

    private static void partsAllKnown() {
        parts("all known, the first", booked(9, 5, 5), 2, 0, 9, 0, 0, 0);
        parts("all known, the second", booked(5, 9, 5), 2, 1, 9, 0, 0, 0);
        parts("all known, the last", booked(5, 5, 9), 2, 2, 9, 0, 0, 0);
        parts("all as they should be", booked(5, 5, -10), 2, 0, 0, 0, 5, 10);
    }

    private static void partsFirstAndLastKnown() {
        parts("the second known", booked(5, 3, 9), 2, 1, 12, NOT_KNOWN, 0, NOT_KNOWN);
        parts("the last known", booked(5, 3, 9), 2, 2, 9, NOT_KNOWN, NOT_KNOWN, 0);
    }

    // STONE 0 is known as START, at both ends, whatever the ROW has for it.
    private static void partsStoneZeroIsStart() {
        BackToTheFirstStone x = booked(7, 9);
        x.ask(0, 500);
        parts("element 0 is not asked", x, 2, 1, 9, -4000, 500);
        parts("element 0 is not asked, not known", x, 2, 1, 9, NOT_KNOWN, 500);
        parts("START at the first end", x, 2, 0, 17, 0, 490);
        parts("START at the last end", x, 2, 1, 29, 0, 520);
        parts("an element behind the last stone", x, 2, 1, 9, 0, 500, 9999);
    }

    private static void partsNotKnownAndItsNeighbours() {
        parts("-32768 in ints", booked(1, 1), 2, 0, 2, 0, -32768);
        parts("-32767 in ints", booked(1, 1), 2, 0, 32768, 0, -32767);
        parts("-32769 in ints", booked(1, 1), 2, 0, 32770, 0, -32769);
        parts("-32768 in shorts", booked(1, 1), 1, 0, 2, 0, -32768);
        parts("-128 in bytes", booked(1, 1), 0, 0, 129, 0, -128);
    }

    private static void partsOfSeveralTheFirst() {
        parts("as far, the first", booked(7, 7), 2, 0, 7, 0, 0);
        parts("as far on the other side, the first", booked(7, -7), 2, 0, 7, 0, 0);
        parts("as far on the other side, the first below", booked(-7, 7), 2, 0, -7, 0, 0);
        parts("one more", booked(-7, 8), 2, 1, 8, 0, 0);
        parts("one less", booked(-7, 6), 2, 0, -7, 0, 0);
        parts("three", booked(6, -7, 7), 2, 1, -7, 0, 0, 0);
    }

    private static void partsHasItsSign() {
        parts("rises above what they should be", booked(7, 0), 2, 0, 4, 0, 3);
        parts("rises below what they should be", booked(7, 0), 2, 1, 9, 0, 9);
        parts("rises far below what they should be", booked(7, -7), 2, 0, -2, 0, 9);
    }

    // By how much: its lowest 32 bits; which part is farthest by all of them.
    private static void partsLowestBits() {
        parts("wraps below", booked(-2, 2), 2, 0, MAX, 0, MAX);
        parts("wraps above", booked(-2, 3), 2, 1, MIN + 2, 0, MAX);
        parts("does not wrap", booked(0, 0), 2, 0, -MAX, 0, MAX);
        parts("just wraps", booked(0, 0), 2, 0, MIN, 0, MIN);
        parts("between two far ones", booked(0, 0, 0), 2, 1, 1, 0, MIN, MAX);
    }

    private static void partsRowsOfOtherSorts() {
        parts("longs by their lowest bits", booked(7, 0), 3, 0, 4, 0, 3 + (1L << 32));
        parts("longs not known", booked(7, 0), 3, 0, 7, 0, NOT_KNOWN + (1L << 40));
        parts("bytes", booked(7, 0), 0, 0, 4, 0, 3);
    }

    private static BackToTheFirstStone withRow(int setUps, int elements) {
        BackToTheFirstStone x = plain(setUps);
        x.row(0, 2, elements);
        return x;
    }

    private static void partsRowSizes() {
        is("19 as many as set-ups", withRow(3, 3).parts(0, 0), 0);
        is("19 one more", withRow(3, 4).parts(0, 0), 0);
        is("19 sixteen", withRow(16, 16).parts(0, 1), 0);
        refusedOf(() -> withRow(3, 2), "19 one fewer", y -> y.parts(0, 0), -1000005, 5);
        refusedOf(() -> withRow(16, 15), "19 fifteen of sixteen", y -> y.parts(0, 0), -1000005, 5);
        refusedOf(() -> withRow(1, 0), "19 none of one", y -> y.parts(0, 0), -1000005, 5);
        refusedOf(() -> withRow(0, 0), "19 no set-ups", y -> y.parts(0, 0), -1000005, 5);
        refusedOf(() -> withRow(0, 4), "19 no set-ups, some elements", y -> y.parts(0, 1), -1000005, 5);
    }

    private static void partsWhats() {
        refused("19 what -1", y -> y.parts(1, -1), -1000005, 5);
        refused("19 what 2", y -> y.parts(1, 2), -1000005, 5);
        refused("19 what least", y -> y.parts(1, MIN), -1000005, 5);
        refused("19 what greatest", y -> y.parts(1, MAX), -1000005, 5);
    }

    private static void partsRefusalsInOrder() {
        refused("19 shelf -1", y -> y.parts(-1, 0), -1000001, 1);
        refused("19 shelf 8", y -> y.parts(8, 0), -1000001, 1);
        refused("19 a set-up", y -> y.parts(2, 0), -1000002, 2);
        refused("19 nothing", y -> y.parts(3, 0), -1000003, 3);
        refused("19 shelf ahead of what", y -> y.parts(8, 2), -1000001, 1);
        refused("19 a set-up ahead of what", y -> y.parts(2, 2), -1000002, 2);
        refused("19 nothing ahead of what", y -> y.parts(3, 2), -1000003, 3);
        refusedOf(Checks::made, "19 nothing ahead of no set-ups", y -> y.parts(0, 0), -1000003, 3);
        refusedOf(Checks::made, "19 shelf ahead of no set-ups", y -> y.parts(8, 0), -1000001, 1);
    }

    // ---- 20 again ----

    private static BackToTheFirstStone kinds(int yards, int... kinds) {
        BackToTheFirstStone x = made();
        for (int kind : kinds) x.setup(kind, 0, 0, 0, 1, yards - 1);
        return x;
    }

    // Of YARDS all together n at most.
    private static void againByYards() {
        BackToTheFirstStone x = kinds(10, 0, 0, 0);
        is("20 less than one", x.again(9), -1);
        is("20 just one", x.again(10), 0);
        is("20 less than two", x.again(19), 0);
        is("20 just two", x.again(20), 1);
        is("20 less than all", x.again(29), 1);
        is("20 just all", x.again(30), 2);
        is("20 more than all", x.again(31), 2);
        is("20 greatest", x.again(MAX), 2);
        noneRefused("20", x);
    }

    private static void againOfNone() {
        is("20 no yards", plain(2).again(0), -1);
        is("20 a yard", plain(2).again(1), -1);
        is("20 two yards", plain(2).again(2), 0);
        is("20 no set-ups", made().again(MAX), -1);
        is("20 no set-ups, no yards", made().again(0), -1);
        noneRefused("20", made());
    }

    private static void againOfSixteen() {
        BackToTheFirstStone x = kinds(10, 0, 0, 0, 0, 0, 0, 0, 0, 0, 0, 0, 0, 0, 0, 0, 5);
        is("20 the last alone", x.again(10), 1515);
        is("20 the last two", x.again(20), 1415);
        is("20 all sixteen", x.again(160), 15);
        is("20 all but the first", x.again(159), 115);
    }

    private static void againWeightsOfKinds() {
        int[] weight = {1, 2, 2, 3, 2, 3, 3};
        for (int first = 0; first <= 6; first++) {
            for (int second = 0; second <= 6; second++) {
                int due = weight[second] > weight[first] ? 101 : 0;
                is("20 kinds " + first + ", " + second, kinds(10, first, second).again(10), due);
            }
        }
    }

    // As many SETUPS as one of another KIND weighs weigh as much.
    private static void againWeightsTogether() {
        int[] weight = {1, 2, 2, 3, 2, 3, 3};
        for (int kind = 1; kind <= 6; kind++) {
            for (int n = 1; n <= 4; n++) {
                BackToTheFirstStone x = made();
                for (int i = 0; i < n; i++) x.setup(0, 0, 0, 0, 5, 5);
                x.setup(kind, 0, 0, 0, 5 * n, 5 * n);
                int due = weight[kind] > n ? 101 * n : n - 1;
                is("20 " + n + " ahead of kind " + kind, x.again(10 * n), due);
            }
        }
    }

    private static void againOfSeveralTheFirst() {
        is("20 of one weight", kinds(10, 2, 2, 2).again(10), 0);
        is("20 of two of one weight", kinds(10, 1, 2, 1, 2).again(20), 1);
        is("20 the first of most", kinds(10, 0, 2, 0, 2).again(10), 101);
        is("20 the shorter begins later", kinds(10, 0, 0, 2).again(20), 102);
    }

    private static void againRefusals() {
        refused("20 -1", y -> y.again(-1), -16, 6);
        refused("20 least", y -> y.again(MIN), -16, 6);
        refusedOf(Checks::made, "20 -1 of no set-ups", y -> y.again(-1), -16, 6);
    }

    // ---- 21 order ----

    // By {KIND, a} of each.
    private static BackToTheFirstStone sinking(int[]... kindsAndAs) {
        BackToTheFirstStone x = made();
        for (int[] one : kindsAndAs) x.setup(one[0], one[1], 0, 0, 1, 1);
        return x;
    }

    private static int[] of(int... figures) {
        return figures;
    }

    private static void order(String what, BackToTheFirstStone x, int bits, int together) {
        is("21 bits: " + what, x.order(0), bits);
        is("21 together: " + what, x.order(1), together);
        noneRefused("21 " + what, x);
    }

    private static void orderOfNone() {
        order("no set-ups", made(), 0, 0);
        order("none that sinks", sinking(of(0, 9), of(1, 9), of(3, 9), of(4, 9), of(6, 9)), 0, 0);
    }

    private static void orderOfOne() {
        order("one", sinking(of(2, 9)), 0, 9);
        order("one bog", sinking(of(5, 9)), 0, 18);
        order("one that sinks by nothing", sinking(of(2, 0)), 0, 0);
        order("one behind others", sinking(of(0, 9), of(4, 9), of(2, 3)), 0, 3);
    }

    // Of several as near the least as bits; together they have their sign.
    private static void orderOfSeveralTheLeast() {
        order("below 0 by the lesser bits", sinking(of(2, 9), of(2, 1)), 1, -8);
        order("above 0 by the lesser bits", sinking(of(2, 1), of(2, 9)), 1, 8);
        order("alike", sinking(of(2, 4), of(2, 4)), 1, 0);
        order("three alike", sinking(of(2, 4), of(2, 4), of(2, 4)), 1, 4);
        order("what sinks by nothing stays 0", sinking(of(2, 0), of(2, 5)), 0, 5);
        order("and behind", sinking(of(2, 5), of(2, 0)), 0, 5);
    }

    private static void orderToNothing() {
        order("just 0", sinking(of(2, 3), of(5, 2), of(2, 1)), 2, 0);
        order("just 0 by a bog", sinking(of(2, 8), of(5, 4)), 1, 0);
        order("just 1", sinking(of(2, 8), of(5, 4), of(2, 1)), 1, 1);
    }

    private static void orderOfSixteen() {
        BackToTheFirstStone x = made();
        for (int i = 0; i < 15; i++) x.setup(5, 9, 0, 0, 1, 1);
        order("fifteen", x, 0x7F, 18);
        x.setup(5, 9, 0, 0, 1, 1);
        order("sixteen", x, 0xFF, 0);
    }

    private static void orderBitsOfTheLast() {
        BackToTheFirstStone x = plain(13);
        x.setup(2, 2, 0, 0, 1, 1);
        x.setup(2, 3, 0, 0, 1, 1);
        x.setup(5, 3, 0, 0, 1, 1);
        order("the last two", x, 1 << 13 | 1 << 14, 1);
        x.tell(15, 3, 1);
        order("FIRST of the last", x, 1 << 13 | 1 << 14, 1);
        BackToTheFirstStone y = plain(14);
        y.setup(2, 9, 0, 0, 1, 1);
        y.setup(5, 9, 0, 0, 1, 1);
        order("the last but one", y, 1 << 14, 9);
    }

    // Nothing is changed.
    private static void orderFirstAside() {
        BackToTheFirstStone x = sinking(of(2, 4), of(2, 5));
        x.tell(0, 3, 1);
        x.tell(1, 3, 1);
        order("FIRST as told aside", x, 1, 1);
        is("21 FIRST stays", x.setupOf(0, 7) + x.setupOf(1, 7), 2);
    }

    private static void orderWhats() {
        for (int what : new int[] {-1, 2, MIN, MAX}) {
            refused("21 what " + what, y -> y.order(what), -1000005, 5);
            refusedOf(Checks::made, "21 what of none " + what, y -> y.order(what), -1000005, 5);
        }
    }

    // ---- 22 meet ----

    // STONES 1 to the number of SET-UPS less 1.
    private static void meetStones() {
        is("22 the only one of two", plain(2).meet(1, 5, 0), 5);
        is("22 the last of sixteen", plain(16).meet(15, 5, 0), 5);
        refused("22 stone 0", y -> y.meet(0, 0, 0), -1000005, 5);
        refused("22 the end", y -> y.meet(3, 0, 0), -1000005, 5);
        refused("22 stone -1", y -> y.meet(-1, 0, 0), -1000005, 5);
        refused("22 stone least", y -> y.meet(MIN, 0, 0), -1000005, 5);
        refused("22 stone greatest", y -> y.meet(MAX, 0, 0), -1000005, 5);
        refusedOf(() -> plain(1), "22 of one", y -> y.meet(1, 0, 0), -1000005, 5);
        refusedOf(() -> plain(1), "22 stone 0 of one", y -> y.meet(0, 0, 0), -1000005, 5);
        refusedOf(Checks::made, "22 of none", y -> y.meet(0, 0, 0), -1000005, 5);
    }

    // -30000 to 30000.
    private static void meetHeights() {
        is("22 greatest", plain(2).meet(1, 30000, 0), 30000);
        is("22 least", plain(2).meet(1, -30000, 0), -30000);
        is("22 as it is", booked(7, 0).meet(1, 7, 0), 0);
        is("22 above", booked(7, 0).meet(1, 8, 0), 1);
        is("22 below", booked(7, 0).meet(1, 6, 0), -1);
        for (int height : new int[] {30001, -30001, MIN, MAX}) {
            refused("22 height " + height, y -> y.meet(1, height, 0), -1000006, 6);
        }
    }

    // Yards 2 of 200.
    private static void meetIsCut() {
        int[] above = {0, 99, 100, 199, 200, -99, -100, -199, -200};
        int[] part = {0, 0, 1, 1, 2, 0, -1, -1, -2};
        for (int i = 0; i < above.length; i++) {
            BackToTheFirstStone x = loopBy(new int[] {0, 0, 5, 5, 1, 1}, new int[] {0, 0, 5, 5, 99, 99});
            is("22 part of " + above[i], x.meet(1, above[i], 1), part[i]);
        }
    }

    private static void meetFar() {
        BackToTheFirstStone x = made();
        x.ask(0, 9999);
        for (int i = 0; i < 16; i++) x.setup(0, 0, 9999, 0, 99, 99);
        is("22 far", x.meet(15, -30000, 0), -30000 - 16 * 9999);
        is("22 far, its part", x.meet(15, -30000, 1), (-30000 - 16 * 9999) * 15 / 16);
    }

    private static void meetWhats() {
        for (int what : new int[] {-1, 2, MIN, MAX}) {
            refused("22 what " + what, y -> y.meet(1, 0, what), -1000005, 5);
        }
    }

    private static void meetRefusalsInOrder() {
        refused("22 stone ahead of height", y -> y.meet(0, 30001, 0), -1000005, 5);
        refused("22 what ahead of height", y -> y.meet(1, -30001, 2), -1000005, 5);
        refusedOf(Checks::made, "22 no set-ups ahead of height", y -> y.meet(1, 30001, 0), -1000005, 5);
    }

    // ---- 23 rose ----

    // Old heights are 10, 20, 30, .., new ones by so much more.
    private static BackToTheFirstStone risen(long... by) {
        BackToTheFirstStone x = made();
        long[] old = new long[by.length];
        long[] risen = new long[by.length];
        for (int i = 0; i < by.length; i++) {
            old[i] = 10 + 10 * i;
            risen[i] = old[i] + by[i];
        }
        fill(x, 0, 2, old);
        fill(x, 1, 2, risen);
        return x;
    }

    private static void rose(String what, int due, long... by) {
        BackToTheFirstStone x = risen(by);
        is("23 " + what, x.rose(0, 1, by.length), due);
        noneRefused("23 " + what, x);
    }

    private static void roseNone() {
        rose("none changed", -1, 0, 0, 0);
        rose("all higher", -1, 5, 5, 5);
        rose("all lower", -1, -5, -5, -5);
        rose("two alike", -1, 5, 5);
    }

    private static void roseOneOfEach() {
        rose("the first", 0, 7, 0, 0);
        rose("the second", 1, 0, 7, 0);
        rose("the last", 2, 0, 0, 7);
        rose("the first sank", 0, -7, 0, 0);
        rose("by one", 2, 5, 5, 6, 5);
        rose("all but one", 1, 5, 4, 5, 5);
    }

    // Of several the first: of two either one.
    private static void roseOfTwo() {
        rose("of two the first", 0, 5, 6);
        rose("of two the first, lower", 0, 6, 5);
        is("23 of the first two of three", risen(5, 6, 5).rose(0, 1, 2), 0);
    }

    private static void roseThereIsNone() {
        rose("three unlike", -2, 1, 2, 3);
        rose("two and two", -2, 1, 1, 2, 2);
        rose("the first and the last", -2, 1, 0, 0, 2);
        rose("two by as much", -2, 0, 7, 0, 7, 0);
    }

    private static BackToTheFirstStone twoRows(int n, int m) {
        BackToTheFirstStone x = made();
        x.row(0, 2, n);
        x.row(1, 2, m);
        return x;
    }

    // 2 to 40 of the elements that are there.
    private static void roseSizes() {
        BackToTheFirstStone x = twoRows(40, 40);
        is("23 forty", x.rose(0, 1, 40), -1);
        x.set(1, 39, 1);
        is("23 the fortieth", x.rose(0, 1, 40), 39);
        is("23 two of forty", x.rose(0, 1, 2), -1);
        refusedOf(() -> twoRows(41, 41), "23 forty-one", y -> y.rose(0, 1, 41), -16, 6);
        refusedOf(() -> twoRows(160, 160), "23 all", y -> y.rose(0, 1, 160), -16, 6);
        refusedOf(() -> twoRows(2, 2), "23 one", y -> y.rose(0, 1, 1), -16, 6);
        refusedOf(() -> twoRows(0, 0), "23 none", y -> y.rose(0, 1, 0), -16, 6);
        refusedOf(() -> twoRows(39, 40), "23 an old one fewer", y -> y.rose(0, 1, 40), -15, 5);
        refusedOf(() -> twoRows(40, 39), "23 a new one fewer", y -> y.rose(0, 1, 40), -15, 5);
    }

    private static void roseLooksAtNoMore() {
        is("23 the third isn't asked", risen(5, 5, 9).rose(0, 1, 2), -1);
        BackToTheFirstStone x = twoRows(2, 3);
        is("23 rows of two sizes", x.rose(0, 1, 2), -1);
        is("23 the same row", x.rose(0, 0, 2), -1);
    }

    // ROWS of two SORTS may be; of longs the lowest 32 bits; differences are those of ints, not wrapping.
    private static void roseSortsAndBits() {
        BackToTheFirstStone x = made();
        fill(x, 0, 0, 1, 2, 3);
        fill(x, 1, 3, 6 + (1L << 32), 7 - (1L << 40), 8);
        is("23 bytes and longs", x.rose(0, 1, 3), -1);
        fill(x, 2, 2, MIN, 0, 0);
        fill(x, 3, 2, MAX, -1, -1);
        is("23 so far apart", x.rose(2, 3, 3), 0);
        fill(x, 2, 2, 0, 0, MIN);
        fill(x, 3, 2, -1, -1, MAX);
        is("23 so far apart at the end", x.rose(2, 3, 3), 2);
    }

    private static void roseRefusals() {
        refused("23 old -1", y -> y.rose(-1, 1, 2), -11, 1);
        refused("23 old 8", y -> y.rose(8, 1, 2), -11, 1);
        refused("23 new -1", y -> y.rose(1, -1, 2), -11, 1);
        refused("23 new 8", y -> y.rose(1, 8, 2), -11, 1);
        refused("23 old a set-up", y -> y.rose(2, 1, 2), -12, 2);
        refused("23 new a set-up", y -> y.rose(1, 2, 2), -12, 2);
        refused("23 old nothing", y -> y.rose(3, 1, 2), -13, 3);
        refused("23 new nothing", y -> y.rose(1, 3, 2), -13, 3);
        refused("23 -1", y -> y.rose(1, 5, -1), -14, 4);
        refused("23 least", y -> y.rose(1, 5, MIN), -14, 4);
        refused("23 fewer", y -> y.rose(1, 5, 5), -15, 5);
        refused("23 one", y -> y.rose(1, 5, 1), -16, 6);
    }

    private static void roseRefusalsInOrder() {
        refused("23 no old ahead of a set-up", y -> y.rose(8, 2, 2), -11, 1);
        refused("23 no new ahead of a set-up", y -> y.rose(2, 8, 2), -11, 1);
        refused("23 no new ahead of nothing", y -> y.rose(3, 8, 2), -11, 1);
        refused("23 no shelf ahead of n", y -> y.rose(8, 1, -1), -11, 1);
        refused("23 a set-up ahead of nothing as old", y -> y.rose(3, 2, 2), -12, 2);
        refused("23 a set-up ahead of nothing as new", y -> y.rose(2, 3, 2), -12, 2);
        refused("23 a set-up ahead of n", y -> y.rose(1, 2, -1), -12, 2);
        refused("23 a set-up ahead of n 41", y -> y.rose(1, 2, 41), -12, 2);
        refused("23 nothing ahead of n", y -> y.rose(1, 3, -1), -13, 3);
        refused("23 nothing ahead of n 1", y -> y.rose(3, 1, 1), -13, 3);
        refused("23 fewer ahead of n 41", y -> y.rose(1, 5, 41), -15, 5);
        refused("23 fewer ahead of the greatest n", y -> y.rose(1, 5, MAX), -15, 5);
        refusedOf(() -> twoRows(0, 5), "23 fewer ahead of n 1", y -> y.rose(0, 1, 1), -15, 5);
    }

    // ---- 24 crooked ----

    // HOLDERS 0 to 3, each with a SET-UP that books so much.
    private static BackToTheFirstStone held(int... booked) {
        BackToTheFirstStone x = booked(booked);
        for (int holder = 0; holder < booked.length; holder++) x.tell(holder, 2, holder);
        return x;
    }

    private static void crooked(String what, BackToTheFirstStone x, int holder, int by) {
        is("24 holder: " + what, x.crooked(0), holder);
        is("24 by: " + what, x.crooked(1), by);
        noneRefused("24 " + what, x);
    }

    private static void crookedHolders() {
        crooked("the first", held(9, 8, 7, 6), 0, 9);
        crooked("the second", held(6, 9, 8, 7), 1, 9);
        crooked("the third", held(7, 6, 9, 8), 2, 9);
        crooked("the last", held(8, 7, 6, 9), 3, 9);
        crooked("the last below", held(8, 7, 6, -9), 3, -9);
        crooked("one alone", booked(-7), 0, -7);
        BackToTheFirstStone x = held(8, 7, 6, 5);
        x.tell(3, 2, 2);
        crooked("two together", x, 2, 11);
        BackToTheFirstStone sinks = loopBy(new int[] {5, 9, 1, 1, 1, 1}, new int[] {0, 0, 17, 0, 1, 1});
        sinks.tell(1, 2, 1);
        crooked("by rises", sinks, 0, -18);
    }

    private static void crookedOfSeveralTheFirst() {
        crooked("as much", held(5, 9, 9, 9), 1, 9);
        crooked("as much below", held(5, -9, 9, 9), 1, -9);
        crooked("as much above", held(5, 9, -9, -9), 1, 9);
        crooked("one more", held(5, 9, -10, 9), 2, -10);
    }

    // A HOLDER without SET-UPS comes to 0.
    private static void crookedLevel() {
        BackToTheFirstStone x = plain(1);
        x.tell(0, 2, 3);
        crooked("all level", x, 0, 0);
        BackToTheFirstStone y = booked(1);
        y.tell(0, 2, 3);
        crooked("by one", y, 3, 1);
    }

    private static void crookedWhats() {
        for (int what : new int[] {-1, 2, MIN, MAX}) {
            refused("24 what " + what, y -> y.crooked(what), -1000005, 5);
        }
        refusedOf(Checks::made, "24 no set-ups, the holder", y -> y.crooked(0), -1000005, 5);
        refusedOf(Checks::made, "24 no set-ups, how much", y -> y.crooked(1), -1000005, 5);
        refusedOf(Checks::made, "24 no set-ups, another what", y -> y.crooked(2), -1000005, 5);
    }

    // ---- 25 most ----

    private static BackToTheFirstStone byYards(int... yards) {
        BackToTheFirstStone x = made();
        for (int v : yards) x.setup(0, 0, 0, 0, v - Math.min(v - 1, 99), Math.min(v - 1, 99));
        return x;
    }

    private static void longest() {
        is("25 one", byYards(2).most(0), 0);
        is("25 the first", byYards(198, 197, 2).most(0), 0);
        is("25 one more", byYards(100, 101, 101).most(0), 1);
        is("25 the last", byYards(2, 197, 198).most(0), 2);
        is("25 of several the first", byYards(100, 150, 150).most(0), 1);
        is("25 all alike", plain(16).most(0), 0);
        BackToTheFirstStone x = plain(15);
        x.setup(0, 0, 0, 0, 1, 2);
        is("25 the last of sixteen", x.most(0), 15);
        is("25 both together", loopBy(new int[] {0, 0, 0, 0, 60, 1}, new int[] {0, 0, 0, 0, 30, 32}).most(0), 1);
    }

    // BOOKED most, whatever its sign; ERRORS aside.
    private static void steepest() {
        is("25 one level", booked(0).most(1), 0);
        is("25 the first steep", booked(9, 8, -8).most(1), 0);
        is("25 the last steep", booked(7, 8, 9).most(1), 2);
        is("25 the last steep below", booked(7, 8, -9).most(1), 2);
        is("25 of several the first steep", booked(7, 9, -9, 9).most(1), 1);
        is("25 of several the first steep below", booked(7, -9, 9).most(1), 1);
        is("25 all level", plain(16).most(1), 0);
        is("25 greatest steep", booked(9998, -9999).most(1), 1);
        is("25 booked, not risen", loopBy(new int[] {0, 0, 10, 0, 1, 1}, new int[] {5, 9, 0, 9, 1, 1}).most(1), 0);
    }

    private static void mostWhats() {
        for (int what : new int[] {-1, 2, MIN, MAX}) {
            refused("25 what " + what, y -> y.most(what), -5, 5);
        }
        refusedOf(Checks::made, "25 no set-ups, LONG", y -> y.most(0), -5, 5);
        refusedOf(Checks::made, "25 no set-ups, STEEP", y -> y.most(1), -5, 5);
        refusedOf(Checks::made, "25 no set-ups, another what", y -> y.most(2), -5, 5);
    }

    // ---- 26 hours ----

    private static void hours() {
        is("26 none", made().hours(), 0);
        is("26 least", byYards(2).hours(), 1);
        is("26 59 minutes", byYards(49).hours(), 1);
        is("26 just an hour", byYards(50).hours(), 1);
        is("26 a minute more", byYards(51).hours(), 2);
        is("26 just two hours", byYards(110).hours(), 2);
        is("26 a minute more than two", byYards(111).hours(), 3);
        is("26 two set-ups, just an hour", byYards(20, 20).hours(), 1);
        is("26 two set-ups, a minute more", byYards(20, 21).hours(), 2);
        BackToTheFirstStone x = made();
        for (int i = 0; i < 16; i++) x.setup(0, 0, 0, 0, 99, 99);
        is("26 most", x.hours(), 56);
        noneRefused("26", x);
    }
}
