/** Promises 13 and 14, loops read from texts: each boundary that the document names has a test of its own. */
public final class TextEdgesTest extends Checks {
    private static final String[] WORDS = {"setup", "holder", "first", "start", "hair", "fine", "again"};
    // Two set-ups may be named by a text that is read over this.
    private static final Maker TWO = () -> plain(2);

    public static void main(String[] args) {
        setupNumbers();
        setupYards();
        holderNumbers();
        firstNumbers();
        startNumbers();
        hairNumbers();
        fineNumbers();
        againNumbers();
        noDigit();
        oneToFourDigits();
        fiveDigits();
        neighboursOfDigits();
        numberIsJudgedAheadOfWhatFollows();
        oneBlank();
        semicolons();
        tooFewNumbers();
        tooManyNumbers();
        wordsCutShort();
        wordsGoneWrong();
        wordsThatBeginAlike();
        noElements();
        oneTwoAndMostItems();
        lastOfAllElements();
        firstOfSeveralFaults();
        setUpsNamedInTheirText();
        setUpsOverWhatThereIs();
        laterItemsCount();
        againKeepsTheRest();
        noRoom();
        noRoomOnceTheWordIsWhole();
        roomIsNotAskedOfOthers();
        nothingIsToldByAFault();
        rowsOfEverySort();
        elementsByTheirLowestBits();
        elementsThatAreNoLetters();
        readTwice();
        faultAtFirst();
        faultOfTheLatest();
        faultStaysWithoutARow();
        faultStaysWithoutALoop();
        refusals();
        faultCountsAsSix();
        end("TextEdgesTest");
    }

    private static void stands(Maker maker, String text, int items) {
        BackToTheFirstStone x = maker.make();
        is("13 '" + text + "'", loopOf(x, text), items);
        is("14 none of '" + text + "'", x.fault(), -1);
        noneRefused("13 '" + text + "'", x);
    }

    // What can stand, and what follows, whose first element is the one that can't.
    private static void fails(Maker maker, String stands, String rest) {
        BackToTheFirstStone x = maker.make();
        String text = stands.concat(rest);
        is("13 '" + text + "'", loopOf(x, text), -6);
        is("14 of '" + text + "'", x.fault(), stands.length());
        is("13 counted '" + text + "'", x.status(16), 1);
    }

    private static void fails(String stands, String rest) {
        fails(Checks::made, stands, rest);
    }

    // ---- numbers, each with the greatest that may be and the first that may not ----

    private static void setupNumbers() {
        stands(Checks::made, "setup 0 0 0 0 1 1", 1);
        stands(Checks::made, "setup 6 9 9999 9999 99 99", 1);
        fails("setup ", "7 0 0 0 1 1");
        fails("setup 0 ", "10 0 0 1 1");
        fails("setup 0 0 1000", "0 0 1 1");
        fails("setup 0 0 0 1000", "0 1 1");
    }

    private static void setupYards() {
        stands(Checks::made, "setup 0 0 0 0 1 99", 1);
        stands(Checks::made, "setup 0 0 0 0 99 1", 1);
        fails("setup 0 0 0 0 ", "0 1");
        fails("setup 0 0 0 0 ", "100 1");
        fails("setup 0 0 0 0 1 ", "0");
        fails("setup 0 0 0 0 1 ", "100");
    }

    private static void holderNumbers() {
        stands(TWO, "holder 0 0", 1);
        stands(TWO, "holder 1 3", 1);
        fails(TWO, "holder ", "2 0");
        fails(TWO, "holder 1 ", "4");
        fails("holder ", "0 0");
    }

    private static void firstNumbers() {
        stands(TWO, "first 0 0", 1);
        stands(TWO, "first 1 1", 1);
        fails(TWO, "first ", "2 0");
        fails(TWO, "first 1 ", "2");
        fails("first ", "0 0");
    }

    private static void startNumbers() {
        stands(Checks::made, "start 0", 1);
        stands(Checks::made, "start 9999", 1);
        fails("start 1000", "0");
        fails("start ", "-1");
    }

    private static void hairNumbers() {
        stands(Checks::made, "hair 0", 1);
        stands(Checks::made, "hair 9", 1);
        fails("hair ", "10");
    }

    private static void fineNumbers() {
        stands(Checks::made, "fine 1", 1);
        stands(Checks::made, "fine 99", 1);
        fails("fine ", "0");
        fails("fine ", "100");
    }

    private static void againNumbers() {
        stands(TWO, "again 0 0 0", 1);
        stands(TWO, "again 1 9999 9999", 1);
        fails(TWO, "again ", "2 0 0");
        fails(TWO, "again 1 1000", "0 0");
        fails(TWO, "again 1 0 1000", "0");
        fails("again ", "0 0 0");
    }

    // ---- digits ----

    private static void noDigit() {
        fails("hair ", "");
        fails("hair ", ";hair 1");
        fails("hair ", "-1");
        fails("hair ", "+1");
        fails("hair ", "x");
        fails("setup 0 ", " 0 0 1 1");
    }

    // 1 to 4 digits; they may begin with 0.
    private static void oneToFourDigits() {
        String[] numbers = {"7", "07", "007", "0007"};
        for (String number : numbers) {
            BackToTheFirstStone x = made();
            is("13 hair " + number, loopOf(x, "hair ".concat(number)), 1);
            is("13 hair is " + number, x.status(3), 7);
        }
        stands(TWO, "again 0001 0099 0000", 1);
        stands(Checks::made, "start 0000", 1);
    }

    private static void fiveDigits() {
        fails("hair 0000", "7");
        fails("start 9999", "9");
        fails("start 0000", "0");
        fails("setup 0000", "0 0 0 0 1 1");
        fails("setup 0 0 0 0 1 0001", "1");
    }

    private static void neighboursOfDigits() {
        fails("hair ", "/");
        fails("hair ", ":");
        fails("hair 1", "/");
        fails("hair 1", ":");
    }

    // Of a NUMBER that may not be the place of its first digit, whatever comes behind it.
    private static void numberIsJudgedAheadOfWhatFollows() {
        fails("hair ", "10x");
        fails("fine ", "0x");
        fails("fine ", "0000");
        fails("fine ", "00001");
        fails("setup 0 0 0 0 ", "99999 1");
        fails(TWO, "holder ", "2");
        fails(TWO, "holder ", "10000 0");
    }

    // ---- blanks and semicolons ----

    private static void oneBlank() {
        fails("", " hair 1");
        fails("hair", "1");
        fails("hair", ";hair 1");
        fails("hair ", " 1");
        fails("hair", "\t1");
        fails("hair", "!1");
        fails("hair 1", " ");
        fails("hair 1", " ;hair 1");
        fails("hair 1;", " hair 1");
        fails("setup 0", ";0 0 0 1 1");
        fails("setup 0 0 ", " 0 0 1 1");
    }

    private static void semicolons() {
        stands(Checks::made, "hair 1;hair 1", 2);
        fails("", ";hair 1");
        fails("hair 1;", "");
        fails("hair 1;", ";hair 1");
        fails("hair 1", ",hair 1");
        fails("hair 1", ":hair 1");
        fails("hair 1", "<hair 1");
        fails("hair 1", "hair 1");
    }

    private static void tooFewNumbers() {
        fails("setup", "");
        fails("setup 0", "");
        fails("setup 0 0 0 0 1", "");
        fails("setup 0 0 0 0 1", ";hair 1");
        fails(TWO, "holder 0", "");
        fails(TWO, "first 0", ";hair 1");
        fails(TWO, "again 0 0", "");
        fails("start", "");
    }

    private static void tooManyNumbers() {
        fails("setup 0 0 0 0 1 1", " 1");
        fails(TWO, "holder 0 0", " 0");
        fails(TWO, "first 0 0", " 0");
        fails("start 0", " 0");
        fails("hair 0", " 0");
        fails("fine 1", " 0");
        fails(TWO, "again 0 0 0", " 0");
    }

    // ---- words ----

    private static void wordsCutShort() {
        for (String word : WORDS) {
            for (int n = 1; n <= word.length(); n++) fails(word.substring(0, n), "");
        }
    }

    private static void wordsGoneWrong() {
        for (String word : WORDS) {
            for (int n = 0; n <= word.length(); n++) fails(word.substring(0, n), "#");
        }
        fails("", "Hair 1");
        fails("hai", "R 1");
        fails("hair", "s 1");
    }

    private static void wordsThatBeginAlike() {
        fails("se", "art 1");
        fails("st", "tup 0 0 0 0 1 1");
        fails("ha", "lder 0 0");
        fails("ho", "ir 1");
        fails("fir", "e 1");
        fails("fin", "st 0 0");
    }

    // ---- how many elements and items ----

    private static void noElements() {
        fails("", "");
        is("13 no element, nothing told", made().status(0), 0);
    }

    private static void oneTwoAndMostItems() {
        stands(Checks::made, "hair 1", 1);
        stands(Checks::made, "hair 1;fine 1", 2);
        stands(Checks::made, "hair 1;".repeat(22).concat("hair 2"), 23);
    }

    private static void lastOfAllElements() {
        String most = "hair 1;".repeat(22);
        fails(most.concat("start "), "");
        fails(most.concat("start"), "#");
        fails(most.concat("hair 2".substring(0, 5)), "x");
    }

    private static void firstOfSeveralFaults() {
        fails("hair ", "10;hair 10");
        fails("hair 1", "#;#");
        fails("hai", "# 10");
    }

    // ---- set-ups told and named ----

    private static void setUpsNamedInTheirText() {
        stands(Checks::made, "setup 0 0 1 1 1 1;holder 0 1", 2);
        fails("setup 0 0 1 1 1 1;holder ", "1 1");
        fails("holder ", "0 1;setup 0 0 1 1 1 1");
        fails("setup 0 0 1 1 1 1;first ", "1 1;setup 0 0 1 1 1 1");
        stands(Checks::made, "setup 0 0 1 1 1 1;setup 0 0 1 1 1 1;again 1 2 3", 3);
    }

    private static void setUpsOverWhatThereIs() {
        BackToTheFirstStone x = plain(2);
        is("13 over two", loopOf(x, "setup 6 5 4 3 2 1;again 0 8 9;holder 2 1"), 3);
        is("13 three", x.status(0), 3);
        int[] due = {6, 5, 4, 3, 2, 1, 1, 0};
        for (int what = 0; what <= 7; what++) is("13 behind all " + what, x.setupOf(2, what), due[what]);
        is("13 the first anew, BEHIND", x.setupOf(0, 2), 8);
        is("13 the first anew, AHEAD", x.setupOf(0, 3), 9);
        is("13 the second as it was", x.setupOf(1, 2), 1000);
    }

    private static void laterItemsCount() {
        BackToTheFirstStone x = plain(1);
        loopOf(x, "hair 2;hair 3;holder 0 1;holder 0 2;again 0 1 2;again 0 3 4");
        is("13 the later hair", x.status(3), 3);
        is("13 the later holder", x.setupOf(0, 6), 2);
        is("13 the later reading behind", x.setupOf(0, 2), 3);
        is("13 the later reading ahead", x.setupOf(0, 3), 4);
        loopOf(x, "first 0 0;first 0 1;start 1;start 9999;fine 2;fine 99");
        is("13 the later first", x.setupOf(0, 7), 1);
        is("13 the later start", x.status(2), 9999);
        is("13 the later fine", x.status(4), 99);
        is("13 the hair as it was", x.status(3), 3);
    }

    private static void againKeepsTheRest() {
        BackToTheFirstStone x = loopBy(new int[] {6, 5, 4, 3, 2, 1});
        x.tell(0, 2, 3);
        x.tell(0, 3, 1);
        loopOf(x, "again 0 9999 0");
        int[] due = {6, 5, 9999, 0, 2, 1, 3, 1};
        for (int what = 0; what <= 7; what++) is("13 again, what " + what, x.setupOf(0, what), due[what]);
    }

    // ---- room ----

    private static void noRoom() {
        String one = "setup 0 0 0 0 1 1";
        String eight = one.concat(";").repeat(7).concat(one);
        stands(() -> plain(15), one, 1);
        stands(() -> plain(8), eight, 8);
        fails(() -> plain(15), one.concat(";"), one);
        fails(() -> plain(9), one.concat(";").repeat(7), one);
        fails(() -> plain(16), "", one);
        fails(() -> plain(16), "hair 1;", one);
        fails(() -> plain(16), "", "setup 7");
    }

    // Until its letters stand whole the first element that is not as it is.
    private static void noRoomOnceTheWordIsWhole() {
        Maker full = () -> plain(16);
        fails(full, "", "setup");
        fails(full, "", "setup#");
        fails(full, "hair 1;", "setup");
        for (int n = 1; n < 5; n++) {
            fails(full, "setup".substring(0, n), "");
            fails(full, "setup".substring(0, n), "#");
        }
        fails(full, "hair 1;setu", "");
    }

    private static void roomIsNotAskedOfOthers() {
        stands(() -> plain(16), "start 1;hair 1;fine 1;holder 15 1;first 15 1;again 15 1 1", 6);
        fails(() -> plain(16), "again ", "16 1 1");
    }

    // ---- all or nothing ----

    private static void nothingIsToldByAFault() {
        String text = "setup 0 0 1 1 1 1;holder 0 1;first 0 1;start 5;hair 5;fine 6;again 0 1 1;x";
        BackToTheFirstStone x = plain(1);
        is("13 a fault at the end", loopOf(x, text), -6);
        is("13 no set-up", x.status(0), 1);
        is("13 no START", x.status(2), 0);
        is("13 no HAIR", x.status(3), 1);
        is("13 no FINE", x.status(4), 5);
        is("13 no BEHIND", x.setupOf(0, 2), 1000);
        is("13 no AHEAD", x.setupOf(0, 3), 1000);
        is("13 no HOLDER", x.setupOf(0, 6), 0);
        is("13 no FIRST", x.setupOf(0, 7), 0);
        is("13 SEED", x.status(5), 1);
        is("13 then none of it is left over", loopOf(x, "hair 2"), 1);
        is("13 no set-up then", x.status(0), 1);
        is("13 no START then", x.status(2), 0);
    }

    // ---- rows ----

    private static void rowsOfEverySort() {
        for (int sort = 0; sort <= 3; sort++) {
            BackToTheFirstStone x = made();
            fill(x, 0, sort, 'h', 'a', 'i', 'r', ' ', '8');
            is("13 sort " + sort, x.loop(0), 1);
            is("13 told by sort " + sort, x.status(3), 8);
        }
    }

    // Of longs the lowest 32 bits; of the others what they hold.
    private static void elementsByTheirLowestBits() {
        BackToTheFirstStone x = made();
        fill(x, 0, 3, 'h' + (1L << 32), 'a' - (1L << 32), 'i' + (1L << 63), 'r', ' ' + (1L << 40), '8' - (1L << 50));
        is("13 longs", x.loop(0), 1);
        BackToTheFirstStone y = made();
        fill(y, 0, 0, 'h' + 256, 'a', 'i' - 256, 'r', ' ', '8');
        is("13 bytes hold the lowest 8", y.loop(0), 1);
        BackToTheFirstStone z = made();
        fill(z, 0, 1, 'h', 'a' + 256, 'i', 'r', ' ', '8');
        is("13 shorts hold more", z.loop(0), -6);
        is("14 of shorts", z.fault(), 1);
        BackToTheFirstStone v = made();
        fill(v, 0, 2, 'h', 'a', 'i', 'r', ' ', '8' + 65536);
        is("13 ints hold more", v.loop(0), -6);
        is("14 of ints", v.fault(), 5);
    }

    private static void elementsThatAreNoLetters() {
        long[] others = {0, -1, 1, 127, -128};
        for (long other : others) {
            BackToTheFirstStone x = made();
            fill(x, 0, 0, 'h', 'a', 'i', 'r', ' ', '8', other);
            is("13 behind all " + other, x.loop(0), -6);
            is("14 behind all " + other, x.fault(), 6);
            fill(x, 0, 0, other, 'h');
            is("13 ahead of all " + other, x.loop(0), -6);
            is("14 ahead of all " + other, x.fault(), 0);
        }
    }

    // What is read stays in its SHELF.
    private static void readTwice() {
        BackToTheFirstStone x = made();
        is("13 once", loopOf(x, "setup 0 0 1 1 1 1"), 1);
        is("13 twice", x.loop(7), 1);
        is("13 two set-ups", x.status(0), 2);
        is("13 row stays", x.holds(7), 100);
    }

    // ---- 14 fault ----

    private static void faultAtFirst() {
        is("14 none yet", made().fault(), -1);
        BackToTheFirstStone x = made();
        loopOf(x, "hair 1");
        is("14 there was none", x.fault(), -1);
        noneRefused("14", x);
    }

    private static void faultOfTheLatest() {
        BackToTheFirstStone x = made();
        loopOf(x, "hair #");
        is("14 the first", x.fault(), 5);
        loopOf(x, "#");
        is("14 another", x.fault(), 0);
        loopOf(x, "hair 1");
        is("14 none of the latest", x.fault(), -1);
    }

    // Of the latest loop() that came to a ROW.
    private static void faultStaysWithoutARow() {
        BackToTheFirstStone x = plain(1);
        loopOf(x, "hair #");
        x.show(0, 0);
        is("13 a set-up", x.loop(0), -2);
        is("14 stays by -2", x.fault(), 5);
        is("13 nothing", x.loop(1), -3);
        is("14 stays by -3", x.fault(), 5);
        is("13 no shelf", x.loop(8), -1);
        is("14 stays by -1", x.fault(), 5);
    }

    private static void faultStaysWithoutALoop() {
        BackToTheFirstStone x = plain(1);
        x.image();
        loopOf(x, "hair #");
        x.drop();
        x.restore();
        x.turn();
        x.row(7, 0, 0);
        is("14 stays by other calls", x.fault(), 5);
    }

    private static void refusals() {
        refused("13 shelf -1", y -> y.loop(-1), -1, 1);
        refused("13 shelf 8", y -> y.loop(8), -1, 1);
        refused("13 shelf least", y -> y.loop(MIN), -1, 1);
        refused("13 shelf greatest", y -> y.loop(MAX), -1, 1);
        refused("13 a set-up", y -> y.loop(2), -2, 2);
        refused("13 nothing", y -> y.loop(3), -3, 3);
    }

    // A FAULT is -6, also if it is one of room.
    private static void faultCountsAsSix() {
        BackToTheFirstStone x = plain(16);
        loopOf(x, "setup 0 0 0 0 1 1");
        is("13 counted as -6", x.status(16), 1);
        is("13 not as -7", x.status(17), 0);
        loopOf(x, "again 16 1 1");
        is("13 counted as -6 again", x.status(16), 2);
        is("13 not as -1", x.status(11), 0);
    }
}
