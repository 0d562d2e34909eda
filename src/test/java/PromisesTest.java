/** Promise by promise: ordinary inputs, edges, and what is refused, in which order. */
public final class PromisesTest {
    private static final long BYTE_TOP = 0x180L;

    public static void main(String[] args) {
        newObject();
        row();
        set();
        copy();
        element();
        showAndHolds();
        says();
        setup();
        setupOf();
        tell();
        ask();
        loop();
        loopFaults();
        loopRoom();
        loopIsAllOrNothing();
        height();
        off();
        errors();
        spread();
        big();
        parts();
        again();
        order();
        meet();
        rose();
        crooked();
        most();
        hours();
        judge();
        closes();
        done();
        drop();
        turn();
        seasons();
        seed();
        act();
        trace();
        imageAndRestore();
        status();
        Checks.end("PromisesTest");
    }

    private static void is(String what, long got, long want) {
        Checks.is(what, got, want);
    }

    private static void refused(String what, Checks.Call call, long answer, int number) {
        Checks.refused(what, call, answer, number);
    }

    private static BackToTheFirstStone made() {
        return new BackToTheFirstStone();
    }

    // 1
    private static void newObject() {
        BackToTheFirstStone x = made();
        is("NONE", BackToTheFirstStone.NONE, -1);
        is("1 set-ups", x.status(0), 0);
        is("1 START", x.status(2), 0);
        is("1 HAIR", x.status(3), 1);
        is("1 FINE", x.status(4), 5);
        is("1 SEED", x.status(5), 1);
        is("1 FAULT", x.fault(), -1);
        is("1 TRACE", x.trace(0), -1);
        for (int s = 0; s < 8; s++) is("1 shelf", x.holds(s), -1);
        Checks.noneRefused("1", x);
    }

    // 2
    private static void row() {
        BackToTheFirstStone x = made();
        for (int sort = 0; sort < 4; sort++) {
            is("2 row", x.row(sort, sort, 160), 1);
            is("2 holds", x.holds(sort), 100 + sort);
        }
        is("2 none", x.row(7, 0, 0), 1);
        is("2 none holds", x.holds(7), 100);
        is("2 last", x.set(0, 159, 9), 1);
        is("2 first", x.set(0, 0, 9), 1);
        is("2 new", x.row(0, 0, 160), 1);
        is("2 new is 0", x.element(0, 159), 0);
        is("2 new is 0 at first, too", x.element(0, 0), 0);
        is("2 shorter", x.row(0, 1, 3), 1);
        is("2 longer again", x.row(0, 1, 160), 1);
        is("2 set-up", x.setup(0, 0, 1, 1, 1, 1), 0);
        x.show(6, 0);
        is("2 over a set-up", x.row(6, 2, 1), 1);
        is("2 over a set-up holds", x.holds(6), 102);
        Checks.noneRefused("2", x);
        refused("2 row(8, ..)", y -> y.row(8, -1, -1), -1, 1);
        refused("2 row(-1, ..)", y -> y.row(-1, 0, 1), -1, 1);
        refused("2 row n -1", y -> y.row(0, 4, -1), -4, 4);
        refused("2 row sort 4", y -> y.row(0, 4, 161), -6, 6);
        refused("2 row sort -1", y -> y.row(2, -1, 1), -6, 6);
        refused("2 row n 161", y -> y.row(2, 3, 161), -7, 7);
        refused("2 row n max", y -> y.row(3, 0, Integer.MAX_VALUE), -7, 7);
    }

    // 3
    private static void set() {
        BackToTheFirstStone x = made();
        long v = 0x1234567890ABCDEFL;
        for (int sort = 0; sort < 4; sort++) {
            x.row(sort, sort, 2);
            is("3 set", x.set(sort, 1, v), 1);
            is("3 other", x.element(sort, 0), 0);
        }
        is("3 byte", x.element(0, 1), (byte) 0xEF);
        is("3 short", x.element(1, 1), (short) 0xCDEF);
        is("3 int", x.element(2, 1), 0x90ABCDEF);
        is("3 long", x.element(3, 1), v);
        x.set(0, 0, BYTE_TOP);
        is("3 byte's top", x.element(0, 0), -128);
        refused("3 set(8)", y -> y.set(8, -1, 0), -1, 1);
        refused("3 set(-1)", y -> y.set(-1, 0, 0), -1, 1);
        refused("3 set-up", y -> y.set(2, -1, 0), -2, 2);
        refused("3 nothing", y -> y.set(3, -1, 0), -3, 3);
        refused("3 beyond", y -> y.set(0, 6, 1), -5, 5);
        refused("3 below", y -> y.set(0, -1, 1), -5, 5);
    }

    // 4
    private static void copy() {
        BackToTheFirstStone x = made();
        Checks.fill(x, 0, 0, 1, 2, 3, 4, 5, 6);
        Checks.fill(x, 1, 0, 9, 9, 9);
        is("4 copy", x.copy(0, 1, 3, 1, 2), 1);
        is("4 before", x.element(1, 0), 9);
        is("4 first", x.element(1, 1), 4);
        is("4 second", x.element(1, 2), 5);
        is("4 on", x.copy(0, 0, 0, 1, 5), 1);
        for (int i = 0; i < 5; i++) is("4 on, as they were", x.element(0, i + 1), i + 1);
        is("4 back", x.copy(0, 0, 1, 0, 5), 1);
        for (int i = 0; i < 5; i++) is("4 back, as they were", x.element(0, i), i + 1);
        is("4 none at the end", x.copy(0, 1, 6, 3, 0), 1);
        Checks.noneRefused("4", x);
        refused("4 p", y -> y.copy(8, 2, 0, 0, -1), -1, 1);
        refused("4 q", y -> y.copy(2, -1, 0, 0, 1), -1, 1);
        refused("4 set-up to nothing", y -> y.copy(2, 3, 0, 0, 1), -2, 2);
        refused("4 nothing to set-up", y -> y.copy(3, 2, 0, 0, -1), -2, 2);
        refused("4 row to set-up", y -> y.copy(0, 2, 0, 0, 1), -2, 2);
        refused("4 two sorts", y -> y.copy(0, 1, 0, 0, -1), -2, 2);
        refused("4 row to nothing", y -> y.copy(0, 3, 0, 0, -1), -3, 3);
        refused("4 nothing to row", y -> y.copy(3, 0, 0, 0, 1), -3, 3);
        refused("4 n", y -> y.copy(1, 5, -1, 0, -1), -4, 4);
        refused("4 i", y -> y.copy(1, 5, -1, 0, 0), -5, 5);
        refused("4 j", y -> y.copy(1, 5, 0, -1, 0), -5, 5);
        refused("4 end of p", y -> y.copy(5, 1, 3, 0, 2), -5, 5);
        refused("4 end of q", y -> y.copy(1, 5, 0, 3, 2), -5, 5);
        refused("4 none past the end", y -> y.copy(1, 5, 9, 0, 0), -5, 5);
        refused("4 far", y -> y.copy(1, 1, Integer.MAX_VALUE, 0, Integer.MAX_VALUE), -5, 5);
    }

    // 5
    private static void element() {
        BackToTheFirstStone x = Checks.sample();
        is("5 element", x.element(1, 4), 9999);
        is("5 beyond", x.element(1, 8), 0);
        is("5 below", x.element(1, -1), 0);
        is("5 set-up", x.element(2, 0), 0);
        is("5 nothing", x.element(3, 0), 0);
        is("5 no shelf", x.element(8, 0), 0);
        is("5 no shelf below", x.element(-1, 0), 0);
        x.row(1, 2, 4);
        is("5 of an older row", x.element(1, 4), 0);
        x.show(4, 0);
        is("5 of a row that is gone", x.element(4, 0), 0);
        Checks.noneRefused("5", x);
    }

    // 6, 7
    private static void showAndHolds() {
        BackToTheFirstStone x = Checks.sample();
        is("6 show", x.show(3, 2), 1);
        is("7 set-up", x.holds(3), 2);
        is("6 over a row", x.show(0, 0), 1);
        is("7 over a row", x.holds(0), 0);
        is("6 nothing", x.show(1, -1), 0);
        is("7 nothing", x.holds(1), -1);
        is("7 row", x.holds(4), 103);
        is("7 no shelf", x.holds(8), -1);
        is("7 no shelf below", x.holds(-1), -1);
        Checks.noneRefused("6", x);
        refused("6 shelf", y -> y.show(8, 0), -1, 1);
        refused("6 shelf below", y -> y.show(-1, -1), -1, 1);
        refused("6 set-up", y -> y.show(0, 3), -1, 1);
        refused("6 set-up -2", y -> y.show(0, -2), -1, 1);
    }

    // 8
    private static void says() {
        BackToTheFirstStone x = made();
        for (int kind = 0; kind <= 6; kind++) {
            x.setup(kind, 4, 1000, 1000, 20, 50);
            x.tell(kind, 3, 1);
            x.show(kind, kind);
        }
        long other = -1000002;
        long[][] due = {
            {70, other, other, other, other, other, other},
            {70, -30, other, other, other, other, other},
            {70, other, 4, other, other, other, other},
            {70, -30, other, -30, other, other, other},
            {70, other, other, other, 4, other, other},
            {70, other, 8, other, other, 8, other},
            {70, other, other, other, 4, other, 4}};
        for (int s = 0; s <= 6; s++) {
            for (int kind = 0; kind <= 6; kind++) is("8 says(" + s + ", " + kind + ")", x.says(s, kind), due[s][kind]);
        }
        refused("8 shelf", y -> y.says(8, 0), -1000001, 1);
        refused("8 shelf below", y -> y.says(-1, 0), -1000001, 1);
        refused("8 kind", y -> y.says(3, 7), -1000001, 1);
        refused("8 kind below", y -> y.says(0, -1), -1000001, 1);
        refused("8 row", y -> y.says(0, 0), -1000002, 2);
        refused("8 other kind", y -> y.says(2, 4), -1000002, 2);
        refused("8 nothing", y -> y.says(3, 0), -1000003, 3);
    }

    // 9
    private static void setup() {
        BackToTheFirstStone x = made();
        is("9 least", x.setup(0, 0, 0, 0, 1, 1), 0);
        is("9 greatest", x.setup(6, 9, 9999, 9999, 99, 99), 1);
        x.tell(1, 2, 3);
        x.tell(1, 3, 1);
        x.drop();
        is("9 again", x.setup(3, 1, 2, 3, 4, 5), 1);
        int[] due = {3, 1, 2, 3, 4, 5, 0, 0};
        for (int what = 0; what < 8; what++) is("9 figure " + what, x.setupOf(1, what), due[what]);
        for (int i = 2; i < 16; i++) is("9 next", x.setup(1, 1, 1, 1, 1, 1), i);
        Checks.noneRefused("9", x);
        is("9 kind ahead of room", x.setup(7, 1, 1, 1, 1, 1), -1);
        is("9 wrong ahead of room", x.setup(0, 1, 1, 1, 1, 100), -6);
        is("9 room", x.setup(0, 1, 1, 1, 1, 1), -7);
        is("9 room counted", x.status(17), 1);
        is("9 none more", x.status(0), 16);
        refused("9 kind", y -> y.setup(7, 10, 0, 0, 1, 1), -1, 1);
        refused("9 kind below", y -> y.setup(-1, 0, 0, 0, 1, 1), -1, 1);
        refused("9 a", y -> y.setup(0, 10, 0, 0, 1, 1), -6, 6);
        refused("9 a below", y -> y.setup(0, -1, 0, 0, 1, 1), -6, 6);
        refused("9 behind", y -> y.setup(0, 0, 10000, 0, 1, 1), -6, 6);
        refused("9 behind below", y -> y.setup(0, 0, -1, 0, 1, 1), -6, 6);
        refused("9 ahead", y -> y.setup(0, 0, 0, 10000, 1, 1), -6, 6);
        refused("9 ahead below", y -> y.setup(0, 0, 0, -1, 1, 1), -6, 6);
        refused("9 back", y -> y.setup(0, 0, 0, 0, 0, 1), -6, 6);
        refused("9 back above", y -> y.setup(0, 0, 0, 0, 100, 1), -6, 6);
        refused("9 on", y -> y.setup(0, 0, 0, 0, 1, 0), -6, 6);
        refused("9 on above", y -> y.setup(0, 0, 0, 0, 1, 100), -6, 6);
    }

    // 10
    private static void setupOf() {
        BackToTheFirstStone x = Checks.sample();
        int[] bog = {5, 3, 1300, 1360, 10, 20, 3, 0, -60, 6, -66};
        int[] leaning = {4, 2, 1000, 1020, 50, 60, 0, 1, -20, -2, -18};
        for (int what = 0; what <= 10; what++) {
            is("10 bog " + what, x.setupOf(1, what), bog[what]);
            is("10 leaning " + what, x.setupOf(2, what), leaning[what]);
        }
        refused("10 set-up", y -> y.setupOf(3, 0), -1000005, 5);
        refused("10 set-up below", y -> y.setupOf(-1, 0), -1000005, 5);
        refused("10 what", y -> y.setupOf(0, 11), -1000005, 5);
        refused("10 what below", y -> y.setupOf(0, -1), -1000005, 5);
    }

    // 11
    private static void tell() {
        BackToTheFirstStone x = Checks.sample();
        is("11 behind", x.tell(1, 0, 9999), 1300);
        is("11 behind is", x.setupOf(1, 2), 9999);
        is("11 ahead", x.tell(1, 1, 0), 1360);
        is("11 ahead is", x.setupOf(1, 3), 0);
        is("11 holder", x.tell(1, 2, 1), 3);
        is("11 holder is", x.setupOf(1, 6), 1);
        is("11 first", x.tell(1, 3, 1), 0);
        is("11 first is", x.setupOf(1, 7), 1);
        is("11 error then", x.setupOf(1, 9), -6);
        is("11 first again", x.tell(1, 3, 0), 1);
        is("11 holder again", x.tell(1, 2, 0), 1);
        is("11 both are", x.setupOf(1, 7) + x.setupOf(1, 6), 0);
        Checks.noneRefused("11", x);
        refused("11 set-up", y -> y.tell(3, 9, 0), -1, 1);
        refused("11 set-up below", y -> y.tell(-1, 0, 0), -1, 1);
        refused("11 what", y -> y.tell(0, 4, 0), -6, 6);
        refused("11 what below", y -> y.tell(0, -1, 0), -6, 6);
        refused("11 behind", y -> y.tell(0, 0, 10000), -6, 6);
        refused("11 ahead", y -> y.tell(0, 1, -1), -6, 6);
        refused("11 holder", y -> y.tell(0, 2, 4), -6, 6);
        refused("11 holder below", y -> y.tell(0, 2, -1), -6, 6);
        refused("11 first", y -> y.tell(0, 3, 2), -6, 6);
    }

    // 12
    private static void ask() {
        BackToTheFirstStone x = made();
        is("12 start", x.ask(0, -9999), 0);
        is("12 start is", x.ask(0, 9999), -9999);
        is("12 hair", x.ask(1, 0), 1);
        is("12 hair is", x.ask(1, 9), 0);
        is("12 fine", x.ask(2, 1), 5);
        is("12 fine is", x.ask(2, 99), 1);
        is("12 all", x.status(2) + x.status(3) + x.status(4), 9999 + 9 + 99);
        Checks.noneRefused("12", x);
        refused("12 what", y -> y.ask(3, 1), -1000006, 6);
        refused("12 what below", y -> y.ask(-1, 1), -1000006, 6);
        refused("12 start", y -> y.ask(0, 10000), -1000006, 6);
        refused("12 start below", y -> y.ask(0, -10000), -1000006, 6);
        refused("12 hair", y -> y.ask(1, 10), -1000006, 6);
        refused("12 hair below", y -> y.ask(1, -1), -1000006, 6);
        refused("12 fine", y -> y.ask(2, 100), -1000006, 6);
        refused("12 fine below", y -> y.ask(2, 0), -1000006, 6);
    }

    // 13
    private static void loop() {
        BackToTheFirstStone x = made();
        is("13 items", Checks.loopOf(x, "setup 6 09 0012 9999 1 99;holder 0 3;first 0 1;start 0042;hair 9;fine 99"), 6);
        int[] due = {6, 9, 12, 9999, 1, 99, 3, 1};
        for (int what = 0; what < 8; what++) is("13 figure " + what, x.setupOf(0, what), due[what]);
        is("13 start", x.status(2), 42);
        is("13 hair", x.status(3), 9);
        is("13 fine", x.status(4), 99);
        is("14 none", x.fault(), -1);
        is("13 over it", Checks.loopOf(x, "setup 0 0 5 6 7 8;again 0 9 8;again 1 7 6;again 1 5 4"), 4);
        is("13 again 0", x.setupOf(0, 2) * 10 + x.setupOf(0, 3), 98);
        is("13 again 1", x.setupOf(1, 2) * 10 + x.setupOf(1, 3), 54);
        is("13 holder kept", x.setupOf(0, 6), 3);
        Checks.noneRefused("13", x);
        BackToTheFirstStone y = made();
        Checks.fill(y, 0, 3, 'h' + (1L << 32), 'a', 'i', 'r' - (1L << 40), ' ', '7');
        is("13 longs by their lowest bits", y.loop(0), 1);
        is("13 longs told", y.status(3), 7);
        refused("13 shelf", z -> z.loop(8), -1, 1);
        refused("13 shelf below", z -> z.loop(-1), -1, 1);
        refused("13 set-up", z -> z.loop(2), -2, 2);
        refused("13 nothing", z -> z.loop(3), -3, 3);
    }

    // 13, 14
    private static void loopFaults() {
        fault("", 0);
        fault("x", 0);
        fault(" hair 1", 0);
        fault("s", 1);
        fault("sx", 1);
        fault("se", 2);
        fault("stup", 2);
        fault("settp", 3);
        fault("hold", 4);
        fault("haix", 3);
        fault("fix", 2);
        fault("firs", 4);
        fault("fing", 3);
        fault("again", 5);
        fault("agains", 5);
        fault("hair  1", 5);
        fault("hair 1 ", 6);
        fault("hair 1;", 7);
        fault("hair 1;;hair 1", 7);
        fault("hair 1; hair 1", 7);
        fault("hair 1,", 6);
        fault("hair -1", 5);
        fault("hair 10", 5);
        fault("hair 00009", 9);
        fault("hair 0009", -1);
        fault("start 9999", -1);
        fault("start 99999", 10);
        fault("start -1", 6);
        fault("fine 0", 5);
        fault("fine 100", 5);
        fault("fine 1a", 6);
        fault("fine 0a", 5);
        fault("setup 7", 6);
        fault("setup 0 10", 8);
        fault("setup 0 0 10000", 14);
        fault("setup 0 0 0 0 0 1", 14);
        fault("setup 0 0 0 0 1 100", 16);
        fault("setup 0 0 0 0 1", 15);
        fault("setup 0 0 0 0 1;", 15);
        fault("setup 0 0 0 0 1 1 1", 17);
        fault("holder 0 0", 7);
        fault("first 0 0", 6);
        fault("again 0 0 0", 6);
        fault("setup 0 0 0 0 1 1;holder 1 0", 25);
        fault("setup 0 0 0 0 1 1;holder 0 4", 27);
        fault("setup 0 0 0 0 1 1;first 0 2", 26);
        fault("setup 0 0 0 0 1 1;again 0 1 99999", 32);
        fault("setup 0 0 0 0 1 1;again 0 1", 27);
        fault("setup 0 0 0 0 1 1;again 0 1;", 27);
        everyPlaceOf("setup 0 0 1069 1200 40 30;holder 0 3;first 0 1;start 500;hair 2;fine 30;again 0 15 16");
    }

    private static void fault(String text, int place) {
        BackToTheFirstStone x = made();
        int answer = Checks.loopOf(x, text);
        is("14 FAULT of '" + text + "'", x.fault(), place);
        if (place != -1) {
            is("13 answer to '" + text + "'", answer, -6);
            is("13 counted", x.status(16), 1);
            is("13 nothing told", x.status(0) + x.status(2), 0);
        }
    }

    // Every beginning of a text, and every place of it with a letter that can't stand.
    private static void everyPlaceOf(String text) {
        for (int n = 0; n < text.length(); n++) {
            BackToTheFirstStone x = made();
            int answer = Checks.loopOf(x, text.substring(0, n));
            if (answer == -6) is("14 too early at " + n, x.fault(), n);
            else is("14 whole at " + n, x.fault(), -1);
            int wrong = Checks.loopOf(x, text.substring(0, n).concat("#"));
            is("13 a letter that can't stand", wrong, -6);
            is("14 its place " + n, x.fault(), n);
        }
    }

    // 13, 14: room
    private static void loopRoom() {
        BackToTheFirstStone x = made();
        for (int i = 0; i < 15; i++) x.setup(0, 0, 1, 1, 1, 1);
        is("13 no room for two", Checks.loopOf(x, "setup 0 0 1 1 1 1;setup 0 0 1 1 1 1"), -6);
        is("14 its word", x.fault(), 18);
        is("13 none", x.status(0), 15);
        is("13 room for one", Checks.loopOf(x, "setup 0 0 1 1 1 1"), 1);
        is("13 sixteen", x.status(0), 16);
        is("13 word whole", Checks.loopOf(x, "hair 1;setup"), -6);
        is("14 word whole", x.fault(), 7);
        is("13 word and more", Checks.loopOf(x, "setup#"), -6);
        is("14 word and more", x.fault(), 0);
        is("13 not whole", Checks.loopOf(x, "hair 1;setu"), -6);
        is("14 not whole", x.fault(), 11);
        is("13 not as it is", Checks.loopOf(x, "setuq"), -6);
        is("14 not as it is", x.fault(), 4);
        is("13 start", Checks.loopOf(x, "start 5;again 15 8 9"), 2);
        is("13 wrong by faults alone", x.status(16), 5);
        is("13 room isn't refused", x.status(17), 0);
    }

    private static void loopIsAllOrNothing() {
        BackToTheFirstStone x = Checks.sample();
        Checks.write(x, 6, "setup 0 0 1 1 1 1;holder 0 1;first 0 1;start 5;hair 5;fine 6;again 0 1 1;x");
        Checks.refusedBy(Checks.sample(), "13 set-up again", y -> y.loop(2), -2, 2);
        is("13 a fault at the end", x.loop(6), -6);
        is("14 a fault at the end", x.fault(), 73);
        is("13 set-ups", x.status(0), 3);
        is("13 start", x.status(2), -70);
        is("13 hair", x.status(3), 1);
        is("13 fine", x.status(4), 5);
        is("13 holder", x.setupOf(0, 6), 0);
        is("13 first", x.setupOf(0, 7), 0);
        is("13 behind", x.setupOf(0, 2), 1500);
        is("13 a setup behind fills anew", x.setup(0, 0, 2, 2, 2, 2), 3);
        is("14 kept by a refusal", x.loop(3) + x.fault(), -3 + 73);
        is("14 kept by no shelf", x.loop(8) + x.fault(), -1 + 73);
        is("13 then a good one", Checks.loopOf(x, "hair 3"), 1);
        is("14 none then", x.fault(), -1);
    }

    // 15
    private static void height() {
        BackToTheFirstStone x = Checks.sample();
        int[] due = {-70, 30, -36, -54};
        for (int stone = 0; stone <= 3; stone++) is("15 height", x.height(stone), due[stone]);
        is("15 of an empty loop", made().height(0), 0);
        refused("15 stone", y -> y.height(4), -1000005, 5);
        refused("15 stone below", y -> y.height(-1), -1000005, 5);
    }

    // 16
    private static void off() {
        BackToTheFirstStone x = Checks.sample();
        is("16 off", x.off(0), 16);
        is("16 raw", x.off(1), 20);
        is("16 may", x.off(2), 5);
        is("16 big", x.off(3), 1);
        x.ask(2, 16);
        is("16 as much as may be", x.off(3), 0);
        x.ask(2, 15);
        is("16 above", x.off(3), 1);
        x.turn();
        is("16 turned", x.off(0), -16);
        is("16 below, too", x.off(3), 1);
        BackToTheFirstStone y = made();
        int[] roots = {0, 1, 1, 1, 2, 2, 2, 2, 2, 3, 3, 3, 3, 3, 3, 3, 4};
        for (int n = 0; n <= 16; n++) {
            is("16 may of " + n, y.off(2), 5 * roots[n]);
            if (n < 16) y.setup(0, 0, 1, 1, 1, 1);
        }
        refused("16 what", z -> z.off(4), -1000005, 5);
        refused("16 what below", z -> z.off(-1), -1000005, 5);
    }

    // 10, 15: ERRORS by kinds
    private static void errors() {
        error("SETUP", 0, 9, 100, 99, 1, 0, 0);
        error("UNEVEN", 1, 9, 100, 99, 1, 0, 9);
        error("UNEVEN cut toward 0", 1, 9, 100, 1, 99, 0, -9);
        error("SLOPE twice what is cut", 3, 9, 100, 99, 1, 0, 18);
        error("SLOPE below", 3, 9, 100, 1, 99, 0, -18);
        error("SINKING", 2, 7, 100, 1, 99, 0, 7);
        error("SINKING ahead first", 2, 7, 100, 1, 99, 1, -7);
        error("BOG", 5, 7, 100, 1, 99, 0, 14);
        error("BOG ahead first", 5, 7, 100, 1, 99, 1, -14);
        error("LEANING", 4, 7, 100, 50, 50, 1, 7);
        error("LEANING below", 4, 7, -100, 50, 50, 0, -7);
        error("LEANING level", 4, 7, 0, 50, 50, 0, 0);
        error("NOON", 6, 7, 100, 50, 49, 0, 7);
        error("NOON far", 6, 7, 100, 50, 50, 0, 8);
        error("NOON below", 6, 7, -100, 50, 49, 0, -7);
        error("NOON far below", 6, 7, -100, 50, 50, 1, -8);
        error("NOON far with a 0", 6, 0, -100, 50, 50, 0, -1);
        error("NOON level", 6, 7, 0, 50, 50, 0, 0);
        BackToTheFirstStone x = made();
        x.setup(1, 0, 5, 5, 99, 4);
        x.setup(3, 0, 5, 5, 99, 4);
        x.ask(1, 9);
        is("10 UNEVEN by HAIR 9", x.setupOf(0, 9), 85);
        is("10 SLOPE by HAIR 9", x.setupOf(1, 9), 170);
        x.ask(1, 0);
        is("10 UNEVEN by HAIR 0", x.setupOf(0, 9), 0);
    }

    private static void error(String what, int kind, int a, int booked, int back, int on, int first, int due) {
        BackToTheFirstStone x = made();
        x.setup(kind, a, 1000 + booked, 1000, back, on);
        x.tell(0, 3, first);
        is("10 error " + what, x.setupOf(0, 9), due);
        is("15 rise " + what, x.height(1), booked - due);
    }

    // 17
    private static void spread() {
        BackToTheFirstStone x = Checks.sample();
        // OFF 16; weights by law 0: 1 1 1; 1: 70 30 110; 2: 4900 900 12100
        int[][] due = {
            {-70, 30 - 5, -36 - 10, -54 - 16},
            {-70, 30 - 5, -36 - 7, -54 - 16},
            {-70, 30 - 4, -36 - 5, -54 - 16}};
        for (int law = 0; law <= 2; law++) {
            for (int stone = 0; stone <= 3; stone++) is("17 spread", x.spread(law, stone), due[law][stone]);
        }
        BackToTheFirstStone y = made();
        y.setup(0, 0, 0, 10, 1, 1);
        y.setup(0, 0, 0, 0, 1, 1);
        y.setup(0, 0, 0, 0, 1, 1);
        is("17 cut toward 0 below", y.spread(0, 1), -10 + 3);
        BackToTheFirstStone far = made();
        for (int i = 0; i < 16; i++) far.setup(0, 0, 9999, 0, 99, 99);
        is("17 far", far.spread(2, 8), 0);
        refused("17 law", z -> z.spread(3, 0), -1000005, 5);
        refused("17 law below", z -> z.spread(-1, 0), -1000005, 5);
        refused("17 stone", z -> z.spread(0, 4), -1000005, 5);
        refused("17 stone below", z -> z.spread(0, -1), -1000005, 5);
        Checks.refusedBy(made(), "17 no set-ups", z -> z.spread(0, 0), -1000005, 5);
    }

    // 18
    private static void big() {
        // a 6 that was a 9, hundreds: 1600 instead of 1900
        bigFirst("6 was 9", 1600, 0, 1900, 1, new int[] {0, 0, 0, 1900});
        bigFirst("9 was 6", 1900, 0, 1600, 1, new int[] {0, 0, 1, 1600});
        bigFirst("6 was 9, thousands", 6000, 0, 9000, 1, new int[] {0, 0, 0, 9000});
        bigFirst("9 was 6, thousands", 9123, 0, 6123, 1, new int[] {0, 0, 1, 6123});
        bigFirst("6 was 9, ones", 1236, 0, 1239, 1, new int[] {0, 0, 0, 1239});
        bigFirst("9 was 6, ones", 1239, 0, 1236, 1, new int[] {0, 0, 1, 1236});
        bigFirst("neighbours, thousands", 2153, 0, 1253, 1, new int[] {0, 0, 2, 1253});
        bigFirst("neighbours", 1253, 0, 1235, 1, new int[] {0, 0, 2, 1235});
        bigFirst("100 less", 1253, 0, 1153, 1, new int[] {0, 0, 3, 1153});
        bigFirst("100 more", 1253, 0, 1353, 1, new int[] {0, 0, 4, 1353});
        bigFirst("0s ahead", 9, 0, 900, 0, null);
        bigFirst("0s ahead the other way", 900, 0, 9000, 1, new int[] {0, 0, 2, 9000});
        bigCount("not below 0: AHEAD and 100, the other way, of both", 50, 0, 60, 10, 4);
        bigCount("not 10000: AHEAD less 100, the other way, of both", 9900, 9950, 9939, 9989, 4);
        bigCount("9999 may be, and what the others make", 9899, 9949, 9939, 9989, 5);
        bigCount("not above 9999: AHEAD less 100, the other way, of both", 9949, 9999, 9939, 9989, 4);
        BackToTheFirstStone x = made();
        x.setup(0, 0, 1500, 1500, 1, 1);
        is("18 alike the other way", x.big(-1), 1);
        is("18 alike the set-up", x.big(0), 0);
        is("18 alike the reading", x.big(1), 0);
        is("18 alike the sort", x.big(2), 5);
        is("18 alike the number", x.big(3), 1500);
        BackToTheFirstStone y = made();
        y.setup(0, 0, 1000, 1100, 1, 1);
        is("18 less of ahead, more of behind", y.big(-1), 2);
        is("18 behind first", y.big(1), 0);
        is("18 behind's sort", y.big(2), 4);
        y.tell(0, 0, 9950);
        y.tell(0, 1, 9850);
        is("18 more of ahead", y.big(-1), 2);
        y.setup(0, 0, 1, 8, 1, 1);
        is("18 none", y.big(-1), 0);
        Checks.refusedBy(y, "18 none to tell", z -> z.big(0), -5, 5);
        Checks.refusedBy(x, "18 what where there is one", z -> z.big(4), -5, 5);
        Checks.refusedBy(x, "18 what below where there is one", z -> z.big(-2), -5, 5);
        refused("18 what", z -> z.big(4), -5, 5);
        refused("18 what below", z -> z.big(-2), -5, 5);
        leaningSlip();
    }

    // The error of one who leans changes with what is booked.
    private static void leaningSlip() {
        BackToTheFirstStone x = made();
        x.setup(4, 2, 1200, 1150, 1, 1);
        x.setup(0, 0, 1048, 1000, 1, 1);
        is("18 off", x.off(0), 96);
        x.tell(1, 0, 1046);
        x.setup(0, 0, 1002, 1000, 1, 1);
        is("18 off with 2 more", x.off(0), 96);
        is("18 leaning the other way", x.big(-1), 3);
        is("18 of the first", x.big(0), 0);
        is("18 it would be", x.big(3), 1100);
        is("18 100 less", x.big(2), 3);
    }

    private static void bigCount(String what, int behind, int ahead, int behindNext, int aheadNext, int found) {
        BackToTheFirstStone x = made();
        x.setup(0, 0, behind, ahead, 1, 1);
        x.setup(0, 0, behindNext, aheadNext, 1, 1);
        is("18 " + what, x.big(-1), found);
    }

    // One reading as it was read, the other set-up makes it close if it is as meant; what comes first is told.
    private static void bigFirst(String what, int read, int other, int meant, int found, int[] first) {
        BackToTheFirstStone x = made();
        x.setup(0, 0, read, other, 1, 1);
        x.setup(0, 0, 11, meant - other + 11 > 9999 ? 9999 : meant - other + 11, 1, 1);
        int off = read - other + x.setupOf(1, 8);
        is("18 off " + what, x.off(0), off);
        if (found == 0) {
            is("18 none " + what, x.big(-1), 0);
            return;
        }
        is("18 some " + what, x.big(-1) >= found ? 1 : 0, 1);
        for (int i = 0; i < 4; i++) is("18 first " + what + " " + i, x.big(i), first[i]);
    }

    // 19
    private static void parts() {
        BackToTheFirstStone x = Checks.sample();
        // rises 100, -66, -18
        Checks.fill(x, 6, 2, 5, -32768, -32768);
        is("19 none known", x.parts(6, 0), 0);
        is("19 all", x.parts(6, 1), 16);
        Checks.fill(x, 6, 1, 5, 30 - 40, -32768);
        is("19 first stone as START", x.parts(6, 0), 0);
        is("19 by", x.parts(6, 1), 40);
        Checks.fill(x, 6, 1, 5, -32768, -36 + 30);
        is("19 later", x.parts(6, 0), 2);
        is("19 later by", x.parts(6, 1), 46);
        Checks.fill(x, 6, 2, 5, 30 + 8, -32768);
        is("19 signs", x.parts(6, 0) * 1000 + x.parts(6, 1), 1024);
        Checks.fill(x, 6, 2, 5, 30 - 8, -32768);
        is("19 of several the first", x.parts(6, 0) * 1000 + x.parts(6, 1), 8);
        Checks.fill(x, 6, 2, 5, Integer.MIN_VALUE, Integer.MAX_VALUE);
        is("19 far", x.parts(6, 0), 1);
        is("19 far by its lowest bits", x.parts(6, 1), -66 + 1);
        Checks.fill(x, 6, 3, 5, (1L << 40) - 32768, (1L << 40) - 32768);
        is("19 longs not known", x.parts(6, 1), 16);
        Checks.noneRefused("19", x);
        refused("19 shelf", y -> y.parts(8, 2), -1000001, 1);
        refused("19 shelf below", y -> y.parts(-1, 0), -1000001, 1);
        refused("19 set-up", y -> y.parts(2, 2), -1000002, 2);
        refused("19 nothing", y -> y.parts(3, 2), -1000003, 3);
        refused("19 what", y -> y.parts(0, 2), -1000005, 5);
        refused("19 what below", y -> y.parts(0, -1), -1000005, 5);
        BackToTheFirstStone z = Checks.sample();
        z.row(0, 2, 2);
        Checks.refusedBy(z, "19 fewer", y -> y.parts(0, 0), -1000005, 5);
        BackToTheFirstStone empty = made();
        empty.row(0, 2, 2);
        Checks.refusedBy(empty, "19 no set-ups", y -> y.parts(0, 0), -1000005, 5);
    }

    // 20
    private static void again() {
        BackToTheFirstStone x = Checks.sample();
        // yards 70, 30, 110; weights 1, 3, 2
        is("20 none so short", x.again(29), -1);
        is("20 the bog", x.again(30), 101);
        is("20 the bog still", x.again(99), 101);
        is("20 two", x.again(100), 1);
        is("20 the other two", x.again(140), 102);
        is("20 two of more weight", x.again(209), 102);
        is("20 all", x.again(210), 2);
        is("20 greatest", x.again(Integer.MAX_VALUE), 2);
        is("20 none for 0", x.again(0), -1);
        is("20 of no set-ups", made().again(1000), -1);
        BackToTheFirstStone y = made();
        for (int i = 0; i < 16; i++) y.setup(0, 0, 1, 1, 1, i == 0 ? 50 : 1);
        is("20 of several the first", y.again(2), 101);
        is("20 far", y.again(28), 114);
        is("20 last", y.again(30), 115);
        refused("20 below", z -> z.again(-1), -16, 6);
    }

    // 21
    private static void order() {
        BackToTheFirstStone x = made();
        is("21 none", x.order(0), 0);
        is("21 none together", x.order(1), 0);
        x.setup(2, 9, 1, 1, 1, 1);
        is("21 one", x.order(0), 0);
        is("21 one together", x.order(1), 9);
        x.setup(0, 9, 1, 1, 1, 1);
        x.setup(5, 4, 1, 1, 1, 1);
        is("21 two", x.order(0), 4 - 4 + 1);
        is("21 two together, below 0", x.order(1), -1);
        x.tell(0, 3, 1);
        is("21 FIRST as told aside", x.order(0), 1);
        x.setup(2, 0, 1, 1, 1, 1);
        is("21 of no weight", x.order(0), 1);
        x.setup(2, 1, 1, 1, 1, 1);
        is("21 to nothing", x.order(1), 0);
        is("21 to nothing by", x.order(0), 1);
        BackToTheFirstStone y = made();
        for (int i = 0; i < 16; i++) y.setup(5, 9, 1, 1, 1, 1);
        is("21 sixteen", y.order(0), 0xFF);
        is("21 sixteen together", y.order(1), 0);
        Checks.noneRefused("21", y);
        refused("21 what", z -> z.order(2), -1000005, 5);
        refused("21 what below", z -> z.order(-1), -1000005, 5);
    }

    // 22
    private static void meet() {
        BackToTheFirstStone x = Checks.sample();
        is("22 above", x.meet(1, 100, 0), 70);
        is("22 above's part", x.meet(1, 100, 1), 70 * 70 / 210);
        is("22 below", x.meet(2, -137, 0), -101);
        is("22 below's part", x.meet(2, -137, 1), -48);
        is("22 least", x.meet(2, -30000, 0), -29964);
        is("22 greatest", x.meet(2, 30000, 1), 30036 * 100 / 210);
        refused("22 stone 0", y -> y.meet(0, 0, 0), -1000005, 5);
        refused("22 last stone", y -> y.meet(3, 0, 0), -1000005, 5);
        refused("22 what", y -> y.meet(1, 30001, 2), -1000005, 5);
        refused("22 what below", y -> y.meet(1, 0, -1), -1000005, 5);
        refused("22 height", y -> y.meet(1, 30001, 0), -1000006, 6);
        refused("22 height below", y -> y.meet(1, -30001, 1), -1000006, 6);
    }

    // 23
    private static void rose() {
        BackToTheFirstStone x = made();
        Checks.fill(x, 0, 1, 10, 20, 30, 40);
        Checks.fill(x, 1, 3, 15, 25, 35, 45);
        is("23 alike", x.rose(0, 1, 4), -1);
        x.set(1, 2, 36);
        is("23 one", x.rose(0, 1, 4), 2);
        is("23 of the first two alike", x.rose(0, 1, 2), -1);
        x.set(1, 0, 0);
        is("23 two", x.rose(0, 1, 4), -2);
        is("23 of three", x.rose(0, 1, 3), -2);
        is("23 of two the first", x.rose(0, 1, 2), 0);
        x.set(1, 2, 35);
        is("23 the first", x.rose(0, 1, 4), 0);
        x.set(1, 0, 15 + (1L << 32));
        is("23 by lowest bits", x.rose(0, 1, 4), -1);
        x.row(2, 0, 40);
        x.row(3, 0, 40);
        is("23 forty", x.rose(2, 3, 40), -1);
        x.set(3, 39, 1);
        is("23 the last", x.rose(2, 3, 40), 39);
        Checks.noneRefused("23", x);
        refused("23 s", y -> y.rose(8, 2, -1), -11, 1);
        refused("23 t", y -> y.rose(2, -1, -1), -11, 1);
        refused("23 set-up", y -> y.rose(2, 3, -1), -12, 2);
        refused("23 set-up as new", y -> y.rose(3, 2, -1), -12, 2);
        refused("23 nothing", y -> y.rose(3, 1, -1), -13, 3);
        refused("23 nothing as new", y -> y.rose(1, 3, -1), -13, 3);
        refused("23 n", y -> y.rose(1, 1, -1), -14, 4);
        refused("23 fewer", y -> y.rose(1, 5, 5), -15, 5);
        refused("23 fewer old", y -> y.rose(5, 1, 5), -15, 5);
        refused("23 n 1", y -> y.rose(1, 1, 1), -16, 6);
        refused("23 n 0", y -> y.rose(1, 1, 0), -16, 6);
        BackToTheFirstStone z = made();
        z.row(0, 0, 41);
        Checks.refusedBy(z, "23 n 41", y -> y.rose(0, 0, 41), -16, 6);
    }

    // 24
    private static void crooked() {
        BackToTheFirstStone x = Checks.sample();
        // holder 0: 100 - 18, 3: -66
        is("24 holder", x.crooked(0), 0);
        is("24 by", x.crooked(1), 82);
        x.tell(2, 2, 3);
        is("24 holder still", x.crooked(1), 100);
        x.tell(0, 2, 1);
        x.tell(1, 1, 1380);
        is("24 below", x.crooked(0), 3);
        is("24 by below", x.crooked(1), -104);
        x.tell(1, 1, 1376);
        is("24 of several the first", x.crooked(0) * 1000 + x.crooked(1), 1100);
        BackToTheFirstStone level = made();
        level.setup(0, 0, 1, 1, 1, 1);
        level.tell(0, 2, 2);
        is("24 level", level.crooked(0), 0);
        refused("24 what", y -> y.crooked(2), -1000005, 5);
        refused("24 what below", y -> y.crooked(-1), -1000005, 5);
        Checks.refusedBy(made(), "24 no set-ups", y -> y.crooked(0), -1000005, 5);
    }

    // 25
    private static void most() {
        BackToTheFirstStone x = Checks.sample();
        is("25 long", x.most(0), 2);
        is("25 steep", x.most(1), 0);
        x.setup(0, 0, 0, 100, 60, 50);
        is("25 of several the first long", x.most(0), 2);
        is("25 of several the first steep", x.most(1), 0);
        x.setup(0, 0, 0, 101, 60, 51);
        is("25 long then", x.most(0), 4);
        is("25 steep then, below", x.most(1), 4);
        refused("25 what", y -> y.most(2), -5, 5);
        refused("25 what below", y -> y.most(-1), -5, 5);
        Checks.refusedBy(made(), "25 no set-ups", y -> y.most(0), -5, 5);
    }

    // 26
    private static void hours() {
        BackToTheFirstStone x = made();
        is("26 none", x.hours(), 0);
        x.setup(0, 0, 1, 1, 1, 1);
        is("26 begun", x.hours(), 1);
        x.setup(0, 0, 1, 1, 37, 1);
        is("26 just one", x.hours(), 1);
        x.drop();
        x.setup(0, 0, 1, 1, 37, 2);
        is("26 one more", x.hours(), 2);
    }

    // 27
    private static void judge() {
        BackToTheFirstStone x = Checks.sample();
        is("27 book", x.judge(1, 2), -1);
        is("27 none", x.judge(1, 0), -1);
        is("27 wrong", x.judge(5, 1), 2);
        long[] good = {0, 9999, 1, 99};
        long[] low = {-1, -1, 0, 0};
        long[] high = {10000, 10000, 100, 100};
        for (int i = 0; i < 4; i++) {
            Checks.fill(x, 6, 2, good);
            is("27 good", x.judge(6, 1), -1);
            x.set(6, i, low[i]);
            is("27 below", x.judge(6, 1), i);
            x.set(6, i, high[i]);
            is("27 above", x.judge(6, 1), i);
        }
        Checks.fill(x, 6, 3, 1, 1, 1, 1, 1, 1, 1 + (1L << 32), 0);
        is("27 longs by their lowest bits", x.judge(6, 2), 7);
        is("27 only the first", x.judge(6, 1), -1);
        Checks.noneRefused("27", x);
        refused("27 shelf", y -> y.judge(8, -1), -11, 1);
        refused("27 set-up", y -> y.judge(2, -1), -12, 2);
        refused("27 nothing", y -> y.judge(3, -1), -13, 3);
        refused("27 n", y -> y.judge(1, -1), -14, 4);
        refused("27 fewer", y -> y.judge(1, 3), -15, 5);
        refused("27 far fewer", y -> y.judge(1, 1 << 30), -15, 5);
        BackToTheFirstStone z = made();
        z.row(0, 0, 68);
        Checks.refusedBy(z, "27 n 17", y -> y.judge(0, 17), -16, 6);
        is("27 n 16", z.judge(0, 16), 2);
    }

    // 28
    private static void closes() {
        BackToTheFirstStone x = Checks.sample();
        is("28 two", x.closes(1, 2), 10099);
        is("28 one", x.closes(1, 1), 100);
        is("28 none", x.closes(1, 0), 0);
        x.set(1, 1, 1600);
        is("28 below", x.closes(1, 1), -100);
        Checks.noneRefused("28", x);
        refused("28 shelf", y -> y.closes(-1, -1), -1000001, 1);
        refused("28 set-up", y -> y.closes(2, -1), -1000002, 2);
        refused("28 nothing", y -> y.closes(3, -1), -1000003, 3);
        refused("28 n", y -> y.closes(1, -1), -1000004, 4);
        refused("28 fewer", y -> y.closes(1, 3), -1000005, 5);
        refused("28 wrong", y -> y.closes(5, 1), -1000006, 6);
        BackToTheFirstStone z = made();
        z.row(0, 0, 68);
        Checks.refusedBy(z, "28 n 17", y -> y.closes(0, 17), -1000006, 6);
    }

    // 29
    private static void done() {
        BackToTheFirstStone x = Checks.sample();
        is("29 two", x.done(1, 2), 5);
        int[] due = {0, 0, 9999, 0, 1, 99, 0, 0};
        for (int what = 0; what < 8; what++) is("29 figure", x.setupOf(4, what), due[what]);
        is("29 none", x.done(1, 0), 5);
        for (int i = 0; i < 5; i++) is("29 more", x.done(1, 2), 7 + 2 * i);
        Checks.noneRefused("29", x);
        is("29 no room for two", x.done(1, 2), -7);
        is("29 none of them", x.status(0), 15);
        is("29 room for one", x.done(1, 1), 16);
        is("29 wrong ahead of room", x.done(5, 1), -6);
        is("29 no room", x.done(1, 1), -7);
        is("29 room for none", x.done(1, 0), 16);
        refused("29 shelf", y -> y.done(8, -1), -1, 1);
        refused("29 set-up", y -> y.done(2, -1), -2, 2);
        refused("29 nothing", y -> y.done(3, -1), -3, 3);
        refused("29 n", y -> y.done(1, -1), -4, 4);
        refused("29 fewer", y -> y.done(1, 3), -5, 5);
        refused("29 wrong", y -> y.done(5, 1), -6, 6);
        BackToTheFirstStone z = made();
        z.row(0, 0, 68);
        Checks.refusedBy(z, "29 n 17", y -> y.done(0, 17), -6, 6);
    }

    // 30
    private static void drop() {
        BackToTheFirstStone x = Checks.sample();
        x.show(3, 2);
        x.show(7, 2);
        is("30 two left", x.drop(), 2);
        is("30 its shelf", x.holds(3), -1);
        is("30 another shelf of it", x.holds(7), -1);
        x.show(0, 1);
        x.show(6, 0);
        is("30 another's shelf", x.holds(2), 1);
        is("30 a row's shelf", x.holds(1), 102);
        is("30 one left", x.drop(), 1);
        is("30 the other's shelf", x.holds(2), -1);
        is("30 the first shelf", x.holds(0), -1);
        is("30 the first set-up's shelf", x.holds(6), 0);
        is("30 none left", x.drop(), 0);
        Checks.noneRefused("30", x);
        Checks.refusedBy(x, "30 none", y -> y.drop(), -6, 6);
    }

    // 31
    private static void turn() {
        BackToTheFirstStone x = Checks.sample();
        is("31 off then", x.turn(), -16);
        int[][] due = {
            {4, 2, 1020, 1000, 60, 50, 0, 0},
            {5, 3, 1360, 1300, 20, 10, 3, 1},
            {0, 0, 1400, 1500, 40, 30, 0, 1}};
        for (int i = 0; i < 3; i++) {
            for (int what = 0; what < 8; what++) is("31 figure", x.setupOf(i, what), due[i][what]);
        }
        x.show(3, 2);
        is("31 back", x.turn(), 16);
        is("31 shelf of the same number", x.holds(2), 1);
        is("31 shelf of the last", x.holds(3), 2);
        is("31 says then", x.says(3, 4), 2);
        is("31 start kept", x.status(2), -70);
        is("31 none", made().turn(), 0);
        BackToTheFirstStone two = made();
        two.setup(1, 1, 10, 20, 3, 4);
        two.setup(2, 2, 30, 50, 5, 6);
        two.turn();
        is("31 of two the first", two.setupOf(0, 2), 50);
        is("31 of two the last", two.setupOf(1, 2), 20);
    }

    // 32, 33
    private static void seasons() {
        BackToTheFirstStone x = made();
        x.setup(0, 0, 0, 99, 1, 1);
        x.setup(0, 0, 9999, 100, 1, 1);
        x.setup(0, 0, 500, 9999, 1, 1);
        int[] behind = {0, 9999, 500};
        int[] ahead = {99, 100, 9999};
        int seed = 1;
        for (int round = 1; round <= 20; round++) {
            int n = round == 20 ? 60 : round;
            for (int i = 0; i < n; i++) {
                seed = seed * 1103515245 + 12345;
                int at = (seed >>> 16) % 3;
                seed = seed * 1103515245 + 12345;
                behind[at] = Math.min(9999, Math.max(0, behind[at] + (seed >>> 16) % 3 - 1));
                seed = seed * 1103515245 + 12345;
                if ((seed >>> 16) % 20 == 0 && ahead[at] >= 100) ahead[at] -= 100;
            }
            int off = 0;
            for (int i = 0; i < 3; i++) off += behind[i] - ahead[i];
            is("32 off then", x.seasons(n), off);
            is("32 seed then", x.status(5), seed);
            for (int i = 0; i < 3; i++) {
                is("32 behind", x.setupOf(i, 2), behind[i]);
                is("32 ahead", x.setupOf(i, 3), ahead[i]);
            }
        }
        refused("32 n 0", y -> y.seasons(0), -1000006, 6);
        refused("32 n below", y -> y.seasons(-1), -1000006, 6);
        refused("32 n 61", y -> y.seasons(61), -1000006, 6);
        Checks.refusedBy(made(), "32 no set-ups", y -> y.seasons(0), -1000005, 5);
    }

    // 33
    private static void seed() {
        BackToTheFirstStone x = made();
        is("33 at first", x.seed(Integer.MIN_VALUE), 1);
        is("33 then", x.seed(7), Integer.MIN_VALUE);
        is("33 status", x.status(5), 7);
        x.setup(0, 0, 5000, 5000, 1, 1);
        x.setup(0, 0, 5000, 5000, 1, 1);
        int first = x.seasons(60);
        x.tell(0, 0, 5000);
        x.tell(1, 0, 5000);
        x.tell(0, 1, 5000);
        x.tell(1, 1, 5000);
        x.seed(7);
        is("33 the same draws", x.seasons(60), first);
        Checks.noneRefused("33", x);
    }

    // 34
    private static void act() {
        BackToTheFirstStone x = made();
        for (int kind = 0; kind <= 6; kind++) x.setup(kind, 3, 1, 1, 1, 1);
        acts(x, 0, 0, 5, 5, 10);
        acts(x, 0, 1, 5, 10, 11, 10);
        acts(x, 0, 2, 5, 10 ^ 2, 12, 11, 10, 10);
        acts(x, 1, 0, 5, 9, 20, 10);
        acts(x, 1, 1, 5, 18, 11, 20, 10);
        acts(x, 1, 2, 5, 18 ^ 6, 12, 11, 20, 10, 20, 10);
        acts(x, 2, 1, 5, 42, 30, 11, 10);
        acts(x, 2, 2, 5, 42 ^ 4, 12, 30, 11, 10, 10);
        acts(x, 3, 1, 5, 24, 40, 11, 20, 10);
        acts(x, 3, 2, 5, 24 ^ 8, 12, 40, 11, 20, 10, 20, 10);
        acts(x, 4, 0, 5, 5, 51, 10);
        acts(x, 4, 1, 5, 10, 11, 51, 10);
        acts(x, 4, 2, 5, -(10 ^ 2), 50, 12, 11, 51, 10, 51, 10);
        acts(x, 5, 1, 5, 60, 30, 11, 10);
        acts(x, 5, 2, 5, (60 ^ 7) ^ 5, 60, 12, 30, 11, 10, 10);
        acts(x, 6, 0, 5, 10, 70, 51, 10);
        acts(x, 6, 1, 5, 8, 71, 11, 70, 51, 10);
        acts(x, 6, 2, 5, -(8 ^ 4), 50, 12, 71, 11, 70, 51, 10, 70, 51, 10);
        is("34 wraps", x.act(1, 0, Integer.MAX_VALUE), Integer.MIN_VALUE + 3);
        Checks.noneRefused("34", x);
        int[][] none = {{7, 0}, {-1, 0}, {0, 3}, {0, -1}};
        for (int[] call : none) {
            x.act(6, 2, 5);
            is("34 none", x.act(call[0], call[1], 9), 0);
            is("35 no trace then", x.trace(0), -1);
            is("38 no bodies then", x.status(6), 0);
        }
        Checks.noneRefused("34", x);
    }

    private static void acts(BackToTheFirstStone x, int setup, int act, int arg, int answer, int... bodies) {
        String call = "34 act(" + setup + ", " + act + ", " + arg + ")";
        is(call, x.act(setup, act, arg), answer);
        is("38 bodies of " + call, x.status(6), bodies.length);
        for (int i = 0; i < bodies.length; i++) is("35 trace of " + call, x.trace(i), bodies[i]);
        is("35 end of " + call, x.trace(bodies.length), -1);
    }

    // 35
    private static void trace() {
        BackToTheFirstStone x = Checks.sample();
        is("35 first", x.trace(0), 30);
        is("35 below", x.trace(-1), -1);
        is("35 beyond", x.trace(20), -1);
        is("35 far", x.trace(Integer.MAX_VALUE), -1);
        x.drop();
        x.turn();
        is("35 stays", x.trace(2), 10);
        Checks.noneRefused("35", x);
    }

    // 36, 37
    private static void imageAndRestore() {
        Checks.refusedBy(made(), "37 none", y -> y.restore(), -6, 6);
        BackToTheFirstStone x = Checks.sample();
        is("36 image", x.image(), 3);
        is("36 drop", x.drop() + x.drop(), 3);
        x.tell(0, 0, 77);
        x.ask(0, 7);
        x.ask(1, 7);
        x.ask(2, 7);
        x.seed(7);
        x.act(0, 0, 1);
        is("37 a refusal", x.set(0, 6, 0), -5);
        is("37 a fault", Checks.loopOf(x, "x"), -6);
        is("37 restore", x.restore(), 3);
        int[][] due = {
            {0, 0, 1500, 1400, 30, 40, 0, 0},
            {5, 3, 1300, 1360, 10, 20, 3, 0},
            {4, 2, 1000, 1020, 50, 60, 0, 1}};
        for (int i = 0; i < 3; i++) {
            for (int what = 0; what < 8; what++) is("37 figure", x.setupOf(i, what), due[i][what]);
        }
        is("37 start", x.status(2), -70);
        is("37 hair", x.status(3), 1);
        is("37 fine", x.status(4), 5);
        is("37 seed", x.status(5), 99);
        is("37 shelf that was emptied", x.holds(2), -1);
        is("37 rows stay", x.holds(7), 100);
        is("37 fault stays", x.fault(), 0);
        is("37 trace stays", x.trace(0), 10);
        is("37 refusals stay", x.status(15), 1);
        is("37 set-up", x.setup(0, 0, 1, 1, 1, 1), 3);
        x.show(3, 3);
        x.show(4, 2);
        is("37 again", x.restore(), 3);
        is("37 shelf of one that is no more", x.holds(3), -1);
        is("37 shelf of one that is", x.holds(4), 2);
        is("36 another", x.drop() + x.image(), 4);
        x.setup(0, 0, 1, 1, 1, 1);
        is("37 the latest", x.restore(), 2);
    }

    // 38
    private static void status() {
        BackToTheFirstStone x = Checks.sample();
        is("38 set-ups", x.status(0), 3);
        is("38 yards", x.status(1), 210);
        is("38 start", x.status(2), -70);
        is("38 hair", x.status(3), 1);
        is("38 fine", x.status(4), 5);
        is("38 seed", x.status(5), 99);
        is("38 bodies", x.status(6), 3);
        int[] others = {-1, 7, 8, 9, 10, 18, Integer.MAX_VALUE, Integer.MIN_VALUE};
        for (int what : others) is("38 another", x.status(what), -1);
        Checks.noneRefused("38", x);
        x.row(8, 0, 0);
        x.row(0, 0, -1);
        x.row(0, 0, -1);
        is("38 counted -1", x.status(11), 1);
        is("38 counted -4", x.status(14), 2);
    }
}
