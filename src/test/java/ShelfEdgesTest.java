/** Promises 2 to 8, shelves and rows: each boundary that the document names has a test of its own. */
public final class ShelfEdgesTest extends Checks {
    public static void main(String[] args) {
        rowShelves();
        rowSizes();
        rowSorts();
        rowIsNewAndAllZeros();
        rowTakesTheShelf();
        rowRefusals();
        rowRefusedLeavesTheShelf();
        setPlaces();
        setInARowOfNone();
        setKeepsLowestBits();
        setStaysInItsRow();
        setRefusals();
        copyNone();
        copyAllThereIs();
        copyEnds();
        copyAsTheyWere();
        copyKeepsTheRest();
        copyEverySort();
        copyTwoSortsOnlyIfBothHold();
        copyRefusals();
        copyRefusalsInOrder();
        elementNone();
        elementOfNeighbours();
        elementOfARowThatIsGone();
        showShelves();
        showSetUps();
        showNothing();
        showRefusals();
        holdsWhat();
        saysKinds();
        saysAmounts();
        saysRefusals();
        saysRefusalsInOrder();
        end("ShelfEdgesTest");
    }

    // ---- 2 row ----

    // SHELVES 0 to 7.
    private static void rowShelves() {
        BackToTheFirstStone x = made();
        is("2 shelf 0", x.row(0, 0, 1), 1);
        is("2 shelf 7", x.row(7, 0, 1), 1);
        refused("2 shelf -1", y -> y.row(-1, 0, 1), -1, 1);
        refused("2 shelf 8", y -> y.row(8, 0, 1), -1, 1);
        refused("2 shelf least", y -> y.row(MIN, 0, 1), -1, 1);
        refused("2 shelf greatest", y -> y.row(MAX, 0, 1), -1, 1);
    }

    // 0 to 160 elements.
    private static void rowSizes() {
        BackToTheFirstStone x = made();
        is("2 none", x.row(0, 0, 0), 1);
        is("2 none has no element", x.set(0, 0, 1), -5);
        is("2 one", x.row(1, 0, 1), 1);
        is("2 one has one", x.set(1, 0, 1), 1);
        is("2 one has no second", x.set(1, 1, 1), -5);
        is("2 160", x.row(2, 3, 160), 1);
        is("2 160 has the last", x.set(2, 159, 1), 1);
        is("2 160 has none behind", x.set(2, 160, 1), -5);
        refused("2 -1 elements", y -> y.row(3, 0, -1), -4, 4);
        refused("2 least elements", y -> y.row(3, 0, MIN), -4, 4);
        refused("2 161 elements", y -> y.row(3, 0, 161), -7, 7);
        refused("2 greatest elements", y -> y.row(3, 0, MAX), -7, 7);
    }

    // SORTS 0 to 3.
    private static void rowSorts() {
        BackToTheFirstStone x = made();
        for (int sort = 0; sort <= 3; sort++) {
            is("2 sort " + sort, x.row(0, sort, 1), 1);
            is("2 is of sort " + sort, x.holds(0), 100 + sort);
        }
        refused("2 sort -1", y -> y.row(3, -1, 1), -6, 6);
        refused("2 sort 4", y -> y.row(3, 4, 1), -6, 6);
        refused("2 sort least", y -> y.row(3, MIN, 1), -6, 6);
        refused("2 sort greatest", y -> y.row(3, MAX, 1), -6, 6);
    }

    // Elements are 0 at first.
    private static void rowIsNewAndAllZeros() {
        BackToTheFirstStone x = made();
        x.row(0, 3, 160);
        for (int i = 0; i < 160; i++) x.set(0, i, -1);
        x.row(0, 3, 1);
        is("2 a shorter one begins anew", x.element(0, 0), 0);
        x.row(0, 3, 160);
        for (int i = 0; i < 160; i++) is("2 a longer one is new", x.element(0, i), 0);
    }

    // SHELF s holds a new ROW, whatever it held.
    private static void rowTakesTheShelf() {
        BackToTheFirstStone x = plain(1);
        x.show(0, 0);
        is("2 over a set-up", x.row(0, 1, 1), 1);
        is("2 a row now", x.holds(0), 101);
        is("2 over a row", x.row(0, 2, 2), 1);
        is("2 another row now", x.holds(0), 102);
        is("2 of its own size", x.set(0, 1, 1), 1);
        is("2 the other shelves hold nothing", x.holds(1), -1);
    }

    private static void rowRefusals() {
        refused("2 shelf ahead of n below 0", y -> y.row(8, 0, -1), -1, 1);
        refused("2 shelf ahead of sort", y -> y.row(8, 4, 1), -1, 1);
        refused("2 shelf ahead of room", y -> y.row(8, 0, 161), -1, 1);
        refused("2 n below 0 ahead of sort", y -> y.row(3, 4, -1), -4, 4);
        refused("2 sort ahead of room", y -> y.row(3, 4, 161), -6, 6);
    }

    private static void rowRefusedLeavesTheShelf() {
        refused("2 -4 leaves a row", y -> y.row(1, 0, -1), -4, 4);
        refused("2 -6 leaves a row", y -> y.row(1, 4, 1), -6, 6);
        refused("2 -7 leaves a row", y -> y.row(1, 0, 161), -7, 7);
        refused("2 -7 leaves a set-up", y -> y.row(2, 0, 161), -7, 7);
    }

    // ---- 3 set ----

    // An element that isn't there: 0 to the last is.
    private static void setPlaces() {
        BackToTheFirstStone x = sample();
        is("3 first", x.set(0, 0, 77), 1);
        is("3 first is", x.element(0, 0), 77);
        is("3 last", x.set(0, 5, 78), 1);
        is("3 last is", x.element(0, 5), 78);
        refused("3 -1", y -> y.set(0, -1, 1), -5, 5);
        refused("3 behind the last", y -> y.set(0, 6, 1), -5, 5);
        refused("3 least", y -> y.set(0, MIN, 1), -5, 5);
        refused("3 greatest", y -> y.set(0, MAX, 1), -5, 5);
    }

    private static void setInARowOfNone() {
        refusedOf(() -> rowsOf(0, 0), "3 a row of none", y -> y.set(0, 0, 1), -5, 5);
    }

    private static BackToTheFirstStone rowsOf(int n, int m) {
        BackToTheFirstStone x = made();
        x.row(0, 0, n);
        x.row(1, 0, m);
        return x;
    }

    // What is put in keeps its lowest bits.
    private static void setKeepsLowestBits() {
        kept("byte", 0, 127, 127);
        kept("byte one above", 0, 128, -128);
        kept("byte least", 0, -128, -128);
        kept("byte one below", 0, -129, 127);
        kept("byte of 256", 0, 256, 0);
        kept("byte of a long", 0, Long.MAX_VALUE, -1);
        kept("short", 1, 32767, 32767);
        kept("short one above", 1, 32768, -32768);
        kept("short least", 1, -32768, -32768);
        kept("short one below", 1, -32769, 32767);
        kept("short of 65536", 1, 65536, 0);
        kept("short of a long", 1, Long.MIN_VALUE, 0);
        kept("int", 2, MAX, MAX);
        kept("int one above", 2, MAX + 1L, MIN);
        kept("int least", 2, MIN, MIN);
        kept("int one below", 2, MIN - 1L, MAX);
        kept("int of two to the 32nd", 2, 1L << 32, 0);
        kept("long", 3, Long.MAX_VALUE, Long.MAX_VALUE);
        kept("long least", 3, Long.MIN_VALUE, Long.MIN_VALUE);
    }

    private static void kept(String what, int sort, long v, long due) {
        BackToTheFirstStone x = made();
        x.row(0, sort, 1);
        is("3 " + what, x.set(0, 0, v), 1);
        is("3 " + what + " keeps", x.element(0, 0), due);
    }

    private static void setStaysInItsRow() {
        BackToTheFirstStone x = made();
        for (int s = 0; s < SHELVES; s++) x.row(s, 3, 160);
        x.set(3, 0, 5);
        x.set(3, 159, 6);
        is("3 last of the shelf ahead", x.element(2, 159), 0);
        is("3 first of the shelf behind", x.element(4, 0), 0);
        is("3 second", x.element(3, 1), 0);
        is("3 last but one", x.element(3, 158), 0);
    }

    private static void setRefusals() {
        refused("3 shelf -1", y -> y.set(-1, 0, 1), -1, 1);
        refused("3 shelf 8", y -> y.set(8, 0, 1), -1, 1);
        refused("3 set-up", y -> y.set(2, 0, 1), -2, 2);
        refused("3 nothing", y -> y.set(3, 0, 1), -3, 3);
        refused("3 shelf ahead of element", y -> y.set(8, -1, 1), -1, 1);
        refused("3 set-up ahead of element", y -> y.set(2, -1, 1), -2, 2);
        refused("3 nothing ahead of element", y -> y.set(3, -1, 1), -3, 3);
    }

    // ---- 4 copy ----

    private static void copyNone() {
        BackToTheFirstStone x = sample();
        is("4 none from the first", x.copy(1, 5, 0, 0, 0), 1);
        is("4 none from the end to the end", x.copy(1, 5, 8, 4, 0), 1);
        is("4 none in rows of none", rowsOf(0, 0).copy(0, 1, 0, 0, 0), 1);
        is("4 none changed", x.element(5, 0), 0);
        refused("4 none from past the end", y -> y.copy(1, 5, 9, 0, 0), -5, 5);
        refused("4 none to past the end", y -> y.copy(1, 5, 0, 5, 0), -5, 5);
    }

    private static void copyAllThereIs() {
        BackToTheFirstStone x = rowsOf(160, 160);
        x.set(0, 0, 1);
        x.set(0, 159, 9);
        is("4 all", x.copy(0, 1, 0, 0, 160), 1);
        is("4 first of all", x.element(1, 0), 1);
        is("4 last of all", x.element(1, 159), 9);
        refusedOf(() -> rowsOf(160, 160), "4 one more", y -> y.copy(0, 1, 0, 0, 161), -5, 5);
        refusedOf(() -> rowsOf(0, 0), "4 one of none", y -> y.copy(0, 1, 0, 0, 1), -5, 5);
    }

    // i or j below 0, or an end that isn't there.
    private static void copyEnds() {
        BackToTheFirstStone x = sample();
        is("4 to the end of p", x.copy(1, 5, 6, 0, 2), 1);
        is("4 to the end of q", x.copy(1, 5, 0, 2, 2), 1);
        is("4 one from the last to the last", x.copy(1, 5, 7, 3, 1), 1);
        is("4 is the last", x.element(5, 3), 99);
        refused("4 past the end of p", y -> y.copy(1, 5, 7, 0, 2), -5, 5);
        refused("4 past the end of q", y -> y.copy(1, 5, 0, 3, 2), -5, 5);
        refused("4 i -1", y -> y.copy(1, 5, -1, 0, 1), -5, 5);
        refused("4 j -1", y -> y.copy(1, 5, 0, -1, 1), -5, 5);
        refused("4 i least", y -> y.copy(1, 5, MIN, 0, 1), -5, 5);
        refused("4 j least", y -> y.copy(1, 5, 0, MIN, 1), -5, 5);
        refused("4 i greatest", y -> y.copy(1, 5, MAX, 0, 1), -5, 5);
        refused("4 j greatest", y -> y.copy(1, 5, 0, MAX, 1), -5, 5);
        refused("4 n greatest", y -> y.copy(1, 5, 1, 1, MAX), -5, 5);
    }

    // As they were ahead: also within one ROW, in either direction.
    private static void copyAsTheyWere() {
        BackToTheFirstStone x = sample();
        is("4 on by one", x.copy(0, 0, 0, 1, 5), 1);
        long[] on = {1, 1, 2, 3, 4, 5};
        for (int i = 0; i < 6; i++) is("4 on by one, element " + i, x.element(0, i), on[i]);
        BackToTheFirstStone y = sample();
        is("4 back by one", y.copy(0, 0, 1, 0, 5), 1);
        long[] back = {2, 3, 4, 5, 6, 6};
        for (int i = 0; i < 6; i++) is("4 back by one, element " + i, y.element(0, i), back[i]);
        is("4 over itself", y.copy(0, 0, 0, 0, 6), 1);
        for (int i = 0; i < 6; i++) is("4 over itself, element " + i, y.element(0, i), back[i]);
    }

    private static void copyKeepsTheRest() {
        BackToTheFirstStone x = sample();
        x.copy(1, 5, 0, 1, 2);
        long[] due = {0, 1500, 1400, 1};
        for (int i = 0; i < 4; i++) is("4 between others, element " + i, x.element(5, i), due[i]);
        is("4 what was copied stays", x.element(1, 0), 1500);
    }

    private static void copyEverySort() {
        long[] due = {(byte) 0xCD, (short) 0xABCD, 0x6789ABCD, 0x123456789ABCDL};
        for (int sort = 0; sort <= 3; sort++) {
            BackToTheFirstStone x = made();
            x.row(0, sort, 2);
            x.row(1, sort, 2);
            x.set(0, 1, 0x123456789ABCDL);
            is("4 sort " + sort, x.copy(0, 1, 1, 0, 1), 1);
            is("4 sort " + sort + " element", x.element(1, 0), due[sort]);
        }
    }

    // -2 also of two SORTS, when both hold something.
    private static void copyTwoSortsOnlyIfBothHold() {
        refused("4 two sorts", y -> y.copy(0, 1, 0, 0, 1), -2, 2);
        refused("4 two sorts the other way", y -> y.copy(1, 0, 0, 0, 1), -2, 2);
        refused("4 a sort and nothing", y -> y.copy(1, 3, 0, 0, 1), -3, 3);
        refused("4 nothing and a sort", y -> y.copy(3, 1, 0, 0, 1), -3, 3);
        refused("4 nothing twice", y -> y.copy(3, 6, 0, 0, 1), -3, 3);
    }

    private static void copyRefusals() {
        refused("4 p -1", y -> y.copy(-1, 1, 0, 0, 1), -1, 1);
        refused("4 p 8", y -> y.copy(8, 1, 0, 0, 1), -1, 1);
        refused("4 q -1", y -> y.copy(1, -1, 0, 0, 1), -1, 1);
        refused("4 q 8", y -> y.copy(1, 8, 0, 0, 1), -1, 1);
        refused("4 p a set-up", y -> y.copy(2, 1, 0, 0, 1), -2, 2);
        refused("4 q a set-up", y -> y.copy(1, 2, 0, 0, 1), -2, 2);
        refused("4 both a set-up", y -> y.copy(2, 2, 0, 0, 1), -2, 2);
        refused("4 n -1", y -> y.copy(1, 5, 0, 0, -1), -4, 4);
        refused("4 n least", y -> y.copy(1, 5, 0, 0, MIN), -4, 4);
    }

    private static void copyRefusalsInOrder() {
        refused("4 no p ahead of a set-up as q", y -> y.copy(8, 2, 0, 0, 1), -1, 1);
        refused("4 no q ahead of a set-up as p", y -> y.copy(2, 8, 0, 0, 1), -1, 1);
        refused("4 no q ahead of nothing as p", y -> y.copy(3, 8, 0, 0, 1), -1, 1);
        refused("4 no p ahead of nothing as q", y -> y.copy(-1, 3, 0, 0, 1), -1, 1);
        refused("4 no shelf ahead of n", y -> y.copy(8, 1, 0, 0, -1), -1, 1);
        refused("4 no shelf ahead of an end", y -> y.copy(1, 8, -1, 0, 1), -1, 1);
        refused("4 a set-up ahead of nothing as q", y -> y.copy(2, 3, 0, 0, 1), -2, 2);
        refused("4 a set-up ahead of nothing as p", y -> y.copy(3, 2, 0, 0, 1), -2, 2);
        refused("4 a set-up ahead of n", y -> y.copy(1, 2, 0, 0, -1), -2, 2);
        refused("4 a set-up ahead of an end", y -> y.copy(2, 1, 0, 99, 1), -2, 2);
        refused("4 two sorts ahead of n", y -> y.copy(0, 1, 0, 0, -1), -2, 2);
        refused("4 two sorts ahead of an end", y -> y.copy(0, 1, 6, 0, 1), -2, 2);
        refused("4 nothing ahead of n", y -> y.copy(3, 1, 0, 0, -1), -3, 3);
        refused("4 nothing ahead of an end", y -> y.copy(1, 3, 8, 0, 1), -3, 3);
        refused("4 n ahead of i", y -> y.copy(1, 5, -1, 0, -1), -4, 4);
        refused("4 n ahead of j", y -> y.copy(1, 5, 0, 5, -1), -4, 4);
    }

    // ---- 5 element ----

    // 0 if there is none; nothing is refused.
    private static void elementNone() {
        BackToTheFirstStone x = sample();
        is("5 first", x.element(0, 0), 1);
        is("5 last", x.element(0, 5), 6);
        is("5 behind the last", x.element(0, 6), 0);
        is("5 -1", x.element(0, -1), 0);
        is("5 least", x.element(0, MIN), 0);
        is("5 greatest", x.element(0, MAX), 0);
        is("5 a set-up", x.element(2, 0), 0);
        is("5 nothing", x.element(3, 0), 0);
        is("5 shelf -1", x.element(-1, 0), 0);
        is("5 shelf 8", x.element(8, 0), 0);
        is("5 shelf greatest", x.element(MAX, MAX), 0);
        is("5 shelf least", x.element(MIN, MIN), 0);
        noneRefused("5", x);
    }

    private static void elementOfNeighbours() {
        BackToTheFirstStone x = rowsOf(160, 160);
        x.set(0, 159, 7);
        x.set(1, 0, 8);
        is("5 behind the last isn't the next shelf's", x.element(0, 160), 0);
        is("5 ahead of the first isn't the last shelf's", x.element(1, -1), 0);
        x.row(0, 0, 159);
        x.row(0, 0, 160);
        x.set(0, 159, 7);
        x.row(0, 0, 159);
        is("5 behind the last of a shorter row", x.element(0, 159), 0);
    }

    private static void elementOfARowThatIsGone() {
        BackToTheFirstStone x = plain(1);
        x.row(0, 0, 160);
        for (int i = 0; i < 160; i++) x.set(0, i, 7);
        x.show(0, -1);
        for (int i = 0; i < 160; i += 53) is("5 of a shelf that holds nothing now, " + i, x.element(0, i), 0);
        x.show(0, 0);
        is("5 of a shelf that holds a set-up now", x.element(0, 0), 0);
    }

    // ---- 6 show, 7 holds ----

    private static void showShelves() {
        BackToTheFirstStone x = sample();
        is("6 shelf 0", x.show(0, 0), 1);
        is("6 shelf 7", x.show(7, 0), 1);
        refused("6 shelf -1", y -> y.show(-1, 0), -1, 1);
        refused("6 shelf 8", y -> y.show(8, 0), -1, 1);
        refused("6 shelf least", y -> y.show(MIN, 0), -1, 1);
        refused("6 shelf greatest", y -> y.show(MAX, 0), -1, 1);
    }

    // A SET-UP that there is.
    private static void showSetUps() {
        BackToTheFirstStone x = plain(16);
        is("6 first", x.show(0, 0), 1);
        is("7 first", x.holds(0), 0);
        is("6 last of sixteen", x.show(1, 15), 1);
        is("7 last of sixteen", x.holds(1), 15);
        is("6 one in two shelves", x.show(2, 15), 1);
        is("7 one in two shelves", x.holds(1) + x.holds(2), 30);
        refused("6 behind the last", y -> y.show(0, 3), -1, 1);
        refusedOf(() -> plain(16), "6 behind the last of sixteen", y -> y.show(0, 16), -1, 1);
        refusedOf(Checks::made, "6 of no set-ups", y -> y.show(0, 0), -1, 1);
        refused("6 -2", y -> y.show(0, -2), -1, 1);
        refused("6 least", y -> y.show(0, MIN), -1, 1);
        refused("6 greatest", y -> y.show(0, MAX), -1, 1);
    }

    // setup NONE: NOTHING.
    private static void showNothing() {
        BackToTheFirstStone x = sample();
        is("6 nothing over nothing", x.show(3, -1), 0);
        is("7 nothing over nothing", x.holds(3), -1);
        is("6 nothing over a row", x.show(0, -1), 0);
        is("7 nothing over a row", x.holds(0), -1);
        is("6 nothing over a set-up", x.show(2, -1), 0);
        is("7 nothing over a set-up", x.holds(2), -1);
        is("6 nothing without set-ups", made().show(0, -1), 0);
        is("6 then nothing there", x.set(0, 0, 1), -3);
    }

    private static void showRefusals() {
        refused("6 no shelf and no set-up", y -> y.show(8, 3), -1, 1);
        refused("6 no shelf for nothing", y -> y.show(8, -1), -1, 1);
        refused("6 a set-up stays where it was", y -> y.show(2, 3), -1, 1);
    }

    private static void holdsWhat() {
        BackToTheFirstStone x = sample();
        int[] due = {100, 102, 1, -1, 103, 102, -1, -1};
        for (int s = 0; s < SHELVES; s++) is("7 shelf " + s, x.holds(s), due[s]);
        x.row(7, 1, 0);
        is("7 a row of none", x.holds(7), 101);
        is("7 shelf -1", x.holds(-1), -1);
        is("7 shelf 8", x.holds(8), -1);
        is("7 shelf least", x.holds(MIN), -1);
        is("7 shelf greatest", x.holds(MAX), -1);
        noneRefused("7", x);
    }

    // ---- 8 says ----

    private static BackToTheFirstStone shown(int kind, int a, int back, int on) {
        BackToTheFirstStone x = loopBy(new int[] {kind, a, 1000, 1000, back, on});
        x.show(0, 0);
        return x;
    }

    // Its KIND or one above it: every KIND taken for every one.
    private static void saysKinds() {
        int[] above = {-1, 0, 0, 1, 0, 2, 4};
        for (int kind = 0; kind <= 6; kind++) {
            for (int taken = 0; taken <= 6; taken++) {
                BackToTheFirstStone x = shown(kind, 3, 9, 4);
                boolean is = taken == kind || taken == above[kind] || taken == 0;
                int due = taken == 0 ? 13 : taken == 1 || taken == 3 ? 5 : kind == 5 ? 6 : 3;
                is("8 kind " + kind + " taken for " + taken, x.says(0, taken), is ? due : -1000002);
                is("8 counted", x.status(12), is ? 0 : 1);
            }
        }
    }

    private static void saysAmounts() {
        is("8 least yards", shown(0, 0, 1, 1).says(0, 0), 2);
        is("8 most yards", shown(0, 0, 99, 99).says(0, 0), 198);
        is("8 most uneven", shown(1, 9, 99, 1).says(0, 1), 98);
        is("8 most uneven below", shown(1, 9, 1, 99).says(0, 1), -98);
        is("8 even", shown(1, 9, 50, 50).says(0, 1), 0);
        is("8 a slope isn't twice that", shown(3, 9, 99, 1).says(0, 3), 98);
        is("8 a slope taken for uneven", shown(3, 9, 1, 99).says(0, 1), -98);
        is("8 sinks least", shown(2, 0, 1, 1).says(0, 2), 0);
        is("8 sinks most", shown(2, 9, 1, 1).says(0, 2), 9);
        is("8 a bog sinks least", shown(5, 0, 1, 1).says(0, 5), 0);
        is("8 a bog sinks most", shown(5, 9, 1, 1).says(0, 5), 18);
        is("8 a bog by its own kind", shown(5, 9, 1, 1).says(0, 2), 18);
        is("8 leans", shown(4, 9, 1, 1).says(0, 4), 9);
        is("8 at noon its a, whatever the yards", shown(6, 9, 50, 50).says(0, 6), 9);
        is("8 at noon taken for leaning", shown(6, 9, 50, 50).says(0, 4), 9);
        BackToTheFirstStone x = shown(5, 4, 1, 1);
        x.tell(0, 3, 1);
        is("8 FIRST aside", x.says(0, 5), 8);
    }

    private static void saysRefusals() {
        refused("8 shelf -1", y -> y.says(-1, 0), -1000001, 1);
        refused("8 shelf 8", y -> y.says(8, 0), -1000001, 1);
        refused("8 kind -1", y -> y.says(2, -1), -1000001, 1);
        refused("8 kind 7", y -> y.says(2, 7), -1000001, 1);
        refused("8 a row", y -> y.says(1, 0), -1000002, 2);
        refusedOf(() -> rowsOf(0, 0), "8 a row of none", y -> y.says(0, 0), -1000002, 2);
        refused("8 another kind", y -> y.says(2, 1), -1000002, 2);
        refused("8 nothing", y -> y.says(3, 0), -1000003, 3);
    }

    private static void saysRefusalsInOrder() {
        refused("8 no kind ahead of a row", y -> y.says(1, 7), -1000001, 1);
        refused("8 no kind ahead of nothing", y -> y.says(3, 7), -1000001, 1);
        refused("8 no kind ahead of another kind", y -> y.says(2, -1), -1000001, 1);
        refused("8 no shelf and no kind", y -> y.says(8, 7), -1000001, 1);
        refused("8 nothing taken for a kind under", y -> y.says(3, 6), -1000003, 3);
    }
}
