/**
 * A levelling loop, from a stone back to that stone: set-ups read behind and ahead, heights of stones, by how much
 * the loop doesn't close and what may have come of it. The promises that the methods keep are in ../shared/DOC.md.
 */
public final class BackToTheFirstStone {
    public static final int NONE = -1;

    private static final int NOBODY = -1;
    private static final int OTHER = -2;
    private static final int NOTHING = -3;
    private static final int BELOW = -4;
    private static final int BEYOND = -5;
    private static final int WRONG = -6;
    private static final int ROOM = -7;

    // Added to a refusal where NONE and -2 are answers, or where any small number below 0 is one.
    private static final int BY_TENS = -10;
    private static final int BY_MILLIONS = -1000000;

    private static final int MOST_TOLD_HEIGHT = 30000;
    private static final int MOST_COMPARED = 40;
    private static final int MOST_SEASONS = 60;
    private static final int BOOK_WIDTH = 4;

    private final Shelves shelves;
    private final Loop now;
    private final Loop imaged;
    private final Reader reader;
    private final Slips slips;
    private final SinkOrder sinkOrder;
    private final KnownParts knownParts;
    private final Acts acts;
    private final int[] refusals;
    private boolean hasImage;
    private int latestFault;

    public BackToTheFirstStone() {
        shelves = new Shelves();
        now = new Loop();
        imaged = new Loop();
        reader = new Reader();
        slips = new Slips();
        sinkOrder = new SinkOrder();
        knownParts = new KnownParts();
        acts = new Acts();
        refusals = new int[-ROOM + 1];
        hasImage = false;
        latestFault = NONE;
    }

    // ---- shelves ----

    public int row(int s, int sort, int n) {
        if (!shelves.has(s)) return refuse(NOBODY);
        if (n < 0) return refuse(BELOW);
        if (sort < 0 || sort >= Shelves.SORTS) return refuse(WRONG);
        if (n > Shelves.MOST_ELEMENTS) return refuse(ROOM);
        shelves.holdRow(s, sort, n);
        return 1;
    }

    public int set(int s, int i, long v) {
        int why = rowRefusal(s);
        if (why == 0 && !shelves.hasElement(s, i)) why = BEYOND;
        if (why != 0) return refuse(why);
        shelves.put(s, i, v);
        return 1;
    }

    public int copy(int p, int q, int i, int j, int n) {
        int why = pairRefusal(p, q);
        if (why == 0 && shelves.heldBy(p) != shelves.heldBy(q)) why = OTHER;
        if (why == 0 && n < 0) why = BELOW;
        if (why == 0 && !(shelves.hasStretch(p, i, n) && shelves.hasStretch(q, j, n))) why = BEYOND;
        if (why != 0) return refuse(why);
        shelves.move(p, i, q, j, n);
        return 1;
    }

    public long element(int s, int i) {
        return shelves.elementAt(s, i);
    }

    public int show(int s, int setup) {
        if (!shelves.has(s)) return refuse(NOBODY);
        if (setup != NONE && !now.hasSetUp(setup)) return refuse(NOBODY);
        shelves.holdSetUp(s, setup);
        return setup == NONE ? 0 : 1;
    }

    public int holds(int s) {
        return shelves.heldBy(s);
    }

    public int says(int s, int kind) {
        int why = saysRefusal(s, kind);
        if (why != 0) return BY_MILLIONS + refuse(why);
        int setUp = shelves.heldBy(s);
        switch (kind) {
            case Kind.SETUP: return now.yardsOf(setUp);
            case Kind.UNEVEN:
            case Kind.SLOPE: return now.get(setUp, Loop.BACK) - now.get(setUp, Loop.ON);
            case Kind.SINKING:
            case Kind.BOG: return now.sunkBy(setUp);
            default: return now.get(setUp, Loop.A);
        }
    }

    // ---- set-ups ----

    public int setup(int kind, int a, int behind, int ahead, int back, int on) {
        if (!Loop.fits(Loop.KIND, kind)) return refuse(NOBODY);
        boolean fit = Loop.fits(Loop.A, a) && Loop.fits(Loop.BEHIND, behind) && Loop.fits(Loop.AHEAD, ahead)
            && Loop.fits(Loop.BACK, back) && Loop.fits(Loop.ON, on);
        if (!fit) return refuse(WRONG);
        if (!now.hasRoomFor(1)) return refuse(ROOM);
        now.add(kind, a, behind, ahead, back, on);
        return now.count() - 1;
    }

    public int setupOf(int setup, int what) {
        if (!now.hasSetUp(setup) || what < 0 || what > 10) return BY_MILLIONS + refuse(BEYOND);
        switch (what) {
            case 8: return now.bookedOf(setup);
            case 9: return now.errorOf(setup, now.bookedOf(setup));
            case 10: return now.riseOf(setup);
            default: return now.get(setup, what);
        }
    }

    public int tell(int setup, int what, int v) {
        if (!now.hasSetUp(setup)) return refuse(NOBODY);
        int column = toldColumn(what);
        if (column == NONE || !Loop.fits(column, v)) return refuse(WRONG);
        int was = now.get(setup, column);
        now.put(setup, column, v);
        return was;
    }

    public int ask(int what, int v) {
        boolean asked = what >= 0 && what < Loop.SETTINGS;
        if (!asked || !Loop.fits(Loop.START + what, v)) return BY_MILLIONS + refuse(WRONG);
        int was = now.setting(Loop.START + what);
        now.putSetting(Loop.START + what, v);
        return was;
    }

    public int loop(int s) {
        int why = rowRefusal(s);
        if (why != 0) return refuse(why);
        int items = reader.readOver(now, shelves, s);
        latestFault = reader.faultPlace();
        return latestFault == NONE ? items : refuse(WRONG);
    }

    public int fault() {
        return latestFault;
    }

    // ---- heights and what comes of them ----

    public int height(int stone) {
        if (stone < 0 || stone > now.count()) return BY_MILLIONS + refuse(BEYOND);
        return now.heightAt(stone);
    }

    public int off(int what) {
        switch (what) {
            case 0: return now.risesAheadOf(now.count());
            case 1: return now.rawInAll();
            case 2: return now.mayBeOff();
            case 3: return Math.abs(now.risesAheadOf(now.count())) > now.mayBeOff() ? 1 : 0;
            default: return BY_MILLIONS + refuse(BEYOND);
        }
    }

    public int spread(int law, int stone) {
        boolean told = stone >= 0 && stone <= now.count() && law >= 0 && law <= 2;
        if (!told || now.count() == 0) return BY_MILLIONS + refuse(BEYOND);
        int off = now.risesAheadOf(now.count());
        long ahead = now.weightAheadOf(stone, law);
        return now.heightAt(stone) - shareOf(off, ahead, now.weightAheadOf(now.count(), law));
    }

    public int big(int what) {
        if (what < NONE || what > 3) return refuse(BEYOND);
        slips.search(now);
        if (what == NONE) return slips.found();
        if (slips.found() == 0) return refuse(BEYOND);
        return slips.firstOf(what);
    }

    public int parts(int s, int what) {
        int why = rowRefusal(s);
        boolean told = what == 0 || what == 1;
        if (why == 0 && (shelves.lengthOf(s) < now.count() || !told || now.count() == 0)) why = BEYOND;
        if (why != 0) return BY_MILLIONS + refuse(why);
        knownParts.search(now, shelves, s);
        return what == 0 ? knownParts.worst() : knownParts.worstBy();
    }

    public int again(int n) {
        if (n < 0) return BY_TENS + refuse(WRONG);
        int best = NONE;
        int bestWeight = 0;
        for (int first = 0; first < now.count(); first++) {
            int yards = 0;
            int weight = 0;
            for (int last = first; last < now.count(); last++) {
                yards += now.yardsOf(last);
                weight += Kind.weightOf(now.get(last, Loop.KIND));
                if (yards <= n && weight > bestWeight) {
                    best = 100 * first + last;
                    bestWeight = weight;
                }
            }
        }
        return best;
    }

    public int order(int what) {
        if (what != 0 && what != 1) return BY_MILLIONS + refuse(BEYOND);
        sinkOrder.search(now);
        return what == 0 ? sinkOrder.leastBits() : sinkOrder.errorsTogether();
    }

    public int meet(int stone, int height, int what) {
        boolean told = stone >= 1 && stone < now.count() && (what == 0 || what == 1);
        if (!told) return BY_MILLIONS + refuse(BEYOND);
        if (height < -MOST_TOLD_HEIGHT || height > MOST_TOLD_HEIGHT) return BY_MILLIONS + refuse(WRONG);
        int above = height - now.heightAt(stone);
        if (what == 0) return above;
        return shareOf(above, now.weightAheadOf(stone, 1), now.weightAheadOf(now.count(), 1));
    }

    public int rose(int s, int t, int n) {
        int why = pairRefusal(s, t);
        if (why == 0 && n < 0) why = BELOW;
        if (why == 0 && (n > shelves.lengthOf(s) || n > shelves.lengthOf(t))) why = BEYOND;
        if (why == 0 && (n < 2 || n > MOST_COMPARED)) why = WRONG;
        if (why != 0) return BY_TENS + refuse(why);
        if (shelves.differAlike(s, t, n, NONE)) return NONE;
        for (int stone = 0; stone < n; stone++) {
            if (shelves.differAlike(s, t, n, stone)) return stone;
        }
        return -2;
    }

    public int crooked(int what) {
        boolean told = what == 0 || what == 1;
        if (!told || now.count() == 0) return BY_MILLIONS + refuse(BEYOND);
        int holder = 0;
        for (int other = 1; other < Loop.HOLDERS; other++) {
            if (Math.abs(now.risesHeldBy(other)) > Math.abs(now.risesHeldBy(holder))) holder = other;
        }
        return what == 0 ? holder : now.risesHeldBy(holder);
    }

    public int most(int what) {
        boolean told = what == 0 || what == 1;
        if (!told || now.count() == 0) return refuse(BEYOND);
        int best = 0;
        for (int other = 1; other < now.count(); other++) {
            boolean more = what == 0 ? now.yardsOf(other) > now.yardsOf(best)
                : Math.abs(now.bookedOf(other)) > Math.abs(now.bookedOf(best));
            if (more) best = other;
        }
        return best;
    }

    public int hours() {
        return (yardsInAll() + 10 * now.count() + 59) / 60;
    }

    // ---- told books ----

    public int judge(int s, int n) {
        int why = bookRefusal(s, n);
        if (why != 0) return BY_TENS + refuse(why);
        return firstWrong(s, n);
    }

    public int closes(int s, int n) {
        int why = bookRefusal(s, n);
        if (why == 0 && firstWrong(s, n) != NONE) why = WRONG;
        if (why != 0) return BY_MILLIONS + refuse(why);
        int booked = 0;
        for (int i = 0; i < n; i++) {
            booked += shelves.numberAt(s, BOOK_WIDTH * i) - shelves.numberAt(s, BOOK_WIDTH * i + 1);
        }
        return booked;
    }

    public int done(int s, int n) {
        int why = bookRefusal(s, n);
        if (why == 0 && firstWrong(s, n) != NONE) why = WRONG;
        if (why == 0 && !now.hasRoomFor(n)) why = ROOM;
        if (why != 0) return refuse(why);
        for (int i = 0; i < n; i++) {
            int at = BOOK_WIDTH * i;
            now.add(Kind.SETUP, 0, shelves.numberAt(s, at), shelves.numberAt(s, at + 1),
                shelves.numberAt(s, at + 2), shelves.numberAt(s, at + 3));
        }
        return now.count();
    }

    // ---- what changes the loop ----

    public int drop() {
        if (now.count() == 0) return refuse(WRONG);
        now.dropLast();
        shelves.forgetFrom(now.count());
        return now.count();
    }

    public int turn() {
        now.goOtherWay();
        return now.risesAheadOf(now.count());
    }

    public int seasons(int n) {
        if (now.count() == 0) return BY_MILLIONS + refuse(BEYOND);
        if (n < 1 || n > MOST_SEASONS) return BY_MILLIONS + refuse(WRONG);
        for (int i = 0; i < n; i++) now.readByDraws();
        return now.risesAheadOf(now.count());
    }

    public int seed(int v) {
        int was = now.seedNow();
        now.putSeed(v);
        return was;
    }

    public int act(int setup, int act, int x) {
        acts.forget();
        if (!now.hasSetUp(setup) || act < 0 || act >= Acts.ACTS) return 0;
        return acts.perform(now.get(setup, Loop.KIND), setup, now.get(setup, Loop.A), act, x);
    }

    public int trace(int i) {
        return acts.bodyAt(i);
    }

    public int image() {
        imaged.becomeLike(now);
        hasImage = true;
        return now.count();
    }

    public int restore() {
        if (!hasImage) return refuse(WRONG);
        now.becomeLike(imaged);
        shelves.forgetFrom(now.count());
        return now.count();
    }

    public int status(int what) {
        if (what >= 11 && what <= 17) return refusals[what - 10];
        switch (what) {
            case 0: return now.count();
            case 1: return yardsInAll();
            case 2: return now.setting(Loop.START);
            case 3: return now.setting(Loop.HAIR);
            case 4: return now.setting(Loop.FINE);
            case 5: return now.seedNow();
            case 6: return acts.ranInAll();
            default: return NONE;
        }
    }

    // ---- refusals ----

    private int refuse(int why) {
        if (why <= NOBODY && why >= ROOM) refusals[-why]++;
        return why;
    }

    // 0, or the refusal if the shelf doesn't hold a row.
    private int rowRefusal(int s) {
        if (!shelves.has(s)) return NOBODY;
        if (shelves.holdsSetUp(s)) return OTHER;
        return shelves.heldBy(s) == NONE ? NOTHING : 0;
    }

    // The one that comes first in the order of refusals is the greater.
    private int pairRefusal(int p, int q) {
        int first = rowRefusal(p);
        int second = rowRefusal(q);
        if (first == 0) return second;
        return second == 0 ? first : Math.max(first, second);
    }

    private int bookRefusal(int s, int n) {
        int why = rowRefusal(s);
        if (why != 0) return why;
        if (n < 0) return BELOW;
        if ((long) BOOK_WIDTH * n > shelves.lengthOf(s)) return BEYOND;
        return n > Loop.MOST_SETUPS ? WRONG : 0;
    }

    private int saysRefusal(int s, int kind) {
        if (!shelves.has(s) || !Loop.fits(Loop.KIND, kind)) return NOBODY;
        if (shelves.heldBy(s) == NONE) return NOTHING;
        if (!shelves.holdsSetUp(s)) return OTHER;
        return Kind.isUnder(now.get(shelves.heldBy(s), Loop.KIND), kind) ? 0 : OTHER;
    }

    // ---- small helpers ----

    private static int toldColumn(int what) {
        switch (what) {
            case 0: return Loop.BEHIND;
            case 1: return Loop.AHEAD;
            case 2: return Loop.HOLDER;
            case 3: return Loop.FIRST;
            default: return NONE;
        }
    }

    private int yardsInAll() {
        return (int) now.weightAheadOf(now.count(), 1);
    }

    private static int shareOf(int whole, long part, long all) {
        return all == 0 ? 0 : (int) (whole * part / all);
    }

    // A book's columns are a set-up's from BEHIND on.
    private int firstWrong(int s, int n) {
        for (int i = 0; i < BOOK_WIDTH * n; i++) {
            if (!Loop.fits(Loop.BEHIND + i % BOOK_WIDTH, shelves.numberAt(s, i))) return i;
        }
        return NONE;
    }

    /** Kinds of set-ups: which stands under which. */
    private static final class Kind {
        static final int SETUP = 0;
        static final int UNEVEN = 1;
        static final int SINKING = 2;
        static final int SLOPE = 3;
        static final int LEANING = 4;
        static final int BOG = 5;
        static final int NOON = 6;

        private static final int[] ABOVE = {NONE, SETUP, SETUP, UNEVEN, SETUP, SINKING, LEANING};
        private static final int[] WEIGHT = {1, 2, 2, 3, 2, 3, 3};

        static int above(int kind) {
            return kind >= 0 && kind < ABOVE.length ? ABOVE[kind] : NONE;
        }

        static int weightOf(int kind) {
            return kind >= 0 && kind < WEIGHT.length ? WEIGHT[kind] : 0;
        }

        static boolean isUnder(int kind, int wanted) {
            int up = kind;
            for (int level = 0; level < ABOVE.length && up != NONE; level++) {
                if (up == wanted) return true;
                up = above(up);
            }
            return false;
        }
    }

    /** Shelves, each with nothing, a set-up's number, or a row of its own. */
    private static final class Shelves {
        static final int SORTS = 4;
        static final int MOST_ELEMENTS = 160;
        private static final int SHELVES = 8;
        private static final int ROWS_FROM = 100;

        private final int[] held = new int[SHELVES];
        private final int[] lengths = new int[SHELVES];
        private final long[] elements = new long[SHELVES * MOST_ELEMENTS];

        Shelves() {
            for (int s = 0; s < SHELVES; s++) held[s] = NONE;
        }

        boolean has(int s) {
            return s >= 0 && s < SHELVES;
        }

        int heldBy(int s) {
            return has(s) ? held[s] : NONE;
        }

        boolean holdsSetUp(int s) {
            return has(s) && held[s] != NONE && held[s] < ROWS_FROM;
        }

        int lengthOf(int s) {
            return has(s) ? lengths[s] : 0;
        }

        boolean hasElement(int s, int i) {
            return i >= 0 && i < lengthOf(s);
        }

        boolean hasStretch(int s, int i, int n) {
            return i >= 0 && n >= 0 && (long) i + n <= lengthOf(s);
        }

        long elementAt(int s, int i) {
            return hasElement(s, i) ? elements[s * MOST_ELEMENTS + i] : 0;
        }

        int numberAt(int s, int i) {
            return (int) elementAt(s, i);
        }

        void holdRow(int s, int sort, int n) {
            if (!has(s) || n < 0 || n > MOST_ELEMENTS) return;
            held[s] = ROWS_FROM + sort;
            lengths[s] = n;
            for (int i = 0; i < n; i++) elements[s * MOST_ELEMENTS + i] = 0;
        }

        // NONE for nothing.
        void holdSetUp(int s, int setUp) {
            if (!has(s)) return;
            held[s] = setUp;
            lengths[s] = 0;
        }

        void put(int s, int i, long v) {
            if (hasElement(s, i)) elements[s * MOST_ELEMENTS + i] = narrowed(held[s] - ROWS_FROM, v);
        }

        void move(int p, int i, int q, int j, int n) {
            if (!hasStretch(p, i, n) || !hasStretch(q, j, n) || n == 0) return;
            System.arraycopy(elements, p * MOST_ELEMENTS + i, elements, q * MOST_ELEMENTS + j, n);
        }

        // Set-ups from this number on are no more.
        void forgetFrom(int count) {
            for (int s = 0; s < SHELVES; s++) {
                if (holdsSetUp(s) && held[s] >= count) holdSetUp(s, NONE);
            }
        }

        // Whether the first n of t are all above those of s by as much, but for the one left out.
        boolean differAlike(int s, int t, int n, int leftOut) {
            int leader = leftOut == 0 ? 1 : 0;
            long by = (long) numberAt(t, leader) - numberAt(s, leader);
            for (int i = leader + 1; i < n; i++) {
                if (i != leftOut && (long) numberAt(t, i) - numberAt(s, i) != by) return false;
            }
            return true;
        }

        private static long narrowed(int sort, long v) {
            switch (sort) {
                case 0: return (byte) v;
                case 1: return (short) v;
                case 2: return (int) v;
                default: return v;
            }
        }
    }

    /** Set-ups in the order in which they are gone, and all that an image keeps. */
    private static final class Loop {
        static final int MOST_SETUPS = 16;
        static final int HOLDERS = 4;
        static final int SETTINGS = 3;

        // Columns of a set-up, numbered as setupOf() asks for them; then the settings, as ask() does.
        static final int KIND = 0;
        static final int A = 1;
        static final int BEHIND = 2;
        static final int AHEAD = 3;
        static final int BACK = 4;
        static final int ON = 5;
        static final int HOLDER = 6;
        static final int FIRST = 7;
        static final int START = 8;
        static final int HAIR = 9;
        static final int FINE = 10;
        private static final int COLUMNS = 8;

        private static final int[] LEAST = {0, 0, 0, 0, 1, 1, 0, 0, -9999, 0, 1};
        private static final int[] GREATEST = {6, 9, 9999, 9999, 99, 99, 3, 1, 9999, 9, 99};

        private final int[] figures = new int[MOST_SETUPS * COLUMNS];
        private final int[] settings = {0, 1, 5};
        private int setUps = 0;
        private int seedHeld = 1;

        static boolean fits(int column, int v) {
            return column >= 0 && column < LEAST.length && v >= LEAST[column] && v <= GREATEST[column];
        }

        int count() {
            return setUps;
        }

        boolean hasSetUp(int setUp) {
            return setUp >= 0 && setUp < setUps;
        }

        boolean hasRoomFor(int more) {
            return more <= MOST_SETUPS - setUps;
        }

        int get(int setUp, int column) {
            boolean there = setUp >= 0 && setUp < MOST_SETUPS && column >= 0 && column < COLUMNS;
            return there ? figures[setUp * COLUMNS + column] : 0;
        }

        void put(int setUp, int column, int v) {
            boolean there = setUp >= 0 && setUp < MOST_SETUPS && column >= 0 && column < COLUMNS;
            if (there) figures[setUp * COLUMNS + column] = v;
        }

        int setting(int which) {
            int at = which - START;
            return at >= 0 && at < settings.length ? settings[at] : 0;
        }

        void putSetting(int which, int v) {
            int at = which - START;
            if (at >= 0 && at < settings.length) settings[at] = v;
        }

        int seedNow() {
            return seedHeld;
        }

        void putSeed(int v) {
            seedHeld = v;
        }

        void add(int kind, int a, int behind, int ahead, int back, int on) {
            if (!hasRoomFor(1)) return;
            put(setUps, KIND, kind);
            put(setUps, A, a);
            put(setUps, BEHIND, behind);
            put(setUps, AHEAD, ahead);
            put(setUps, BACK, back);
            put(setUps, ON, on);
            put(setUps, HOLDER, 0);
            put(setUps, FIRST, 0);
            setUps++;
        }

        void dropLast() {
            if (setUps > 0) setUps--;
        }

        void becomeLike(Loop other) {
            System.arraycopy(other.figures, 0, figures, 0, figures.length);
            System.arraycopy(other.settings, 0, settings, 0, settings.length);
            setUps = other.setUps;
            seedHeld = other.seedHeld;
        }

        void goOtherWay() {
            for (int low = 0; low < setUps - 1 - low; low++) {
                for (int column = 0; column < COLUMNS; column++) exchange(low, column, setUps - 1 - low, column);
            }
            for (int i = 0; i < setUps; i++) {
                exchange(i, BEHIND, i, AHEAD);
                exchange(i, BACK, i, ON);
                put(i, FIRST, 1 - get(i, FIRST));
            }
        }

        private void exchange(int one, int column, int other, int otherColumn) {
            int kept = get(one, column);
            put(one, column, get(other, otherColumn));
            put(other, otherColumn, kept);
        }

        int yardsOf(int setUp) {
            return get(setUp, BACK) + get(setUp, ON);
        }

        int bookedOf(int setUp) {
            return get(setUp, BEHIND) - get(setUp, AHEAD);
        }

        int riseOf(int setUp) {
            int booked = bookedOf(setUp);
            return booked - errorOf(setUp, booked);
        }

        // What is booked is told, so that it can be asked how it would be with another reading.
        int errorOf(int setUp, int booked) {
            switch (get(setUp, KIND)) {
                case Kind.UNEVEN: return unevenError(setUp);
                case Kind.SLOPE: return 2 * unevenError(setUp);
                case Kind.SINKING:
                case Kind.BOG: return get(setUp, FIRST) == 1 ? -sunkBy(setUp) : sunkBy(setUp);
                case Kind.LEANING: return Integer.signum(booked) * get(setUp, A);
                case Kind.NOON: return Integer.signum(booked) * (get(setUp, A) + (yardsOf(setUp) >= 100 ? 1 : 0));
                default: return 0;
            }
        }

        private int unevenError(int setUp) {
            return setting(HAIR) * (get(setUp, BACK) - get(setUp, ON)) / 10;
        }

        int sunkBy(int setUp) {
            switch (get(setUp, KIND)) {
                case Kind.SINKING: return get(setUp, A);
                case Kind.BOG: return 2 * get(setUp, A);
                default: return 0;
            }
        }

        int risesAheadOf(int stone) {
            int rises = 0;
            for (int i = 0; i < stone && i < setUps; i++) rises += riseOf(i);
            return rises;
        }

        int heightAt(int stone) {
            return setting(START) + risesAheadOf(stone);
        }

        int risesHeldBy(int holder) {
            int rises = 0;
            for (int i = 0; i < setUps; i++) {
                if (get(i, HOLDER) == holder) rises += riseOf(i);
            }
            return rises;
        }

        int rawInAll() {
            int raw = 0;
            for (int i = 0; i < setUps; i++) raw += bookedOf(i);
            return raw;
        }

        int mayBeOff() {
            int root = 0;
            while (root < setUps && (root + 1) * (root + 1) <= setUps) root++;
            return setting(FINE) * root;
        }

        // By law 0 set-ups, by 1 yards, by 2 the squares of these.
        long weightAheadOf(int stone, int law) {
            long weight = 0;
            for (int i = 0; i < stone && i < setUps; i++) {
                long yards = yardsOf(i);
                weight += law == 0 ? 1 : law == 1 ? yards : yards * yards;
            }
            return weight;
        }

        void readByDraws() {
            int setUp = draw(setUps);
            int behind = get(setUp, BEHIND) + draw(3) - 1;
            put(setUp, BEHIND, Math.max(0, Math.min(9999, behind)));
            int ahead = get(setUp, AHEAD);
            if (draw(20) == 0 && ahead >= 100) put(setUp, AHEAD, ahead - 100);
        }

        private int draw(int n) {
            seedHeld = seedHeld * 1103515245 + 12345;
            return n < 1 ? 0 : (seedHeld >>> 16) % n;
        }
    }

    /** Reads a loop's text over a copy of what there is, and gives it back only if all of it stands. */
    private static final class Reader {
        private static final int WORDS = 7;
        private static final int SETUP = 0;
        private static final int HOLDER = 1;
        private static final int FIRST = 2;
        private static final int START = 3;
        private static final int HAIR = 4;
        private static final int FINE = 5;
        private static final int MOST_NUMBERS = 6;
        private static final int MOST_DIGITS = 4;

        // What the numbers behind a word are: columns of Loop, or this, a set-up's number.
        private static final int SETUP_NUMBER = 11;
        private static final int[] NUMBERS = {
            Loop.KIND, Loop.A, Loop.BEHIND, Loop.AHEAD, Loop.BACK, Loop.ON,
            SETUP_NUMBER, Loop.HOLDER,
            SETUP_NUMBER, Loop.FIRST,
            Loop.START,
            Loop.HAIR,
            Loop.FINE,
            SETUP_NUMBER, Loop.BEHIND, Loop.AHEAD};
        // Where in NUMBERS those of each word begin, and behind the last word's where they end.
        private static final int[] NUMBERS_FROM = {0, 6, 8, 10, 11, 12, 13, 16};

        private final Loop told = new Loop();
        private final int[] numbers = new int[MOST_NUMBERS];
        private final int[] letters = new int[Shelves.MOST_ELEMENTS];
        private int length;
        private int at;
        private int faultAt;

        int faultPlace() {
            return faultAt;
        }

        // How many items; only if there was no fault it is told over the loop.
        int readOver(Loop loop, Shelves shelves, int s) {
            length = Math.min(letters.length, shelves.lengthOf(s));
            for (int i = 0; i < length; i++) letters[i] = shelves.numberAt(s, i);
            at = 0;
            faultAt = NONE;
            told.becomeLike(loop);
            int items = 0;
            boolean goesOn = true;
            // An item takes an element at least, so that there can't be more of them than elements.
            while (goesOn && items <= length) {
                goesOn = readItem() && at < length && sign(';');
                items++;
            }
            if (faultAt == NONE) loop.becomeLike(told);
            return items;
        }

        private boolean readItem() {
            int word = longestWordHere();
            int matched = matchedOf(word);
            if (matched < wordOf(word).length()) return faultIs(at + matched);
            if (word == SETUP && !told.hasRoomFor(1)) return faultIs(at);
            at += matched;
            int from = numbersFrom(word);
            int n = numbersFrom(word + 1) - from;
            for (int i = 0; i < n; i++) {
                if (!sign(' ') || !number(i, from + i)) return false;
            }
            tellItem(word);
            return true;
        }

        private boolean faultIs(int place) {
            faultAt = place;
            return false;
        }

        private int letterAt(int i) {
            return i >= 0 && i < length && i < letters.length ? letters[i] : NONE;
        }

        private boolean sign(char wanted) {
            if (letterAt(at) != wanted) return faultIs(at);
            at++;
            return true;
        }

        private boolean number(int i, int which) {
            int begin = at;
            int v = 0;
            while (at - begin < MOST_DIGITS && letterAt(at) >= '0' && letterAt(at) <= '9') {
                v = 10 * v + letterAt(at) - '0';
                at++;
            }
            boolean fits = at > begin && mayStand(which, v);
            if (fits && i >= 0 && i < numbers.length) numbers[i] = v;
            return fits || faultIs(begin);
        }

        private boolean mayStand(int which, int v) {
            if (which < 0 || which >= NUMBERS.length) return false;
            return NUMBERS[which] == SETUP_NUMBER ? told.hasSetUp(v) : Loop.fits(NUMBERS[which], v);
        }

        // No word begins another, so the one that goes along farthest is the only one that can be meant.
        private int longestWordHere() {
            int longest = 0;
            for (int word = 1; word < WORDS; word++) {
                if (matchedOf(word) > matchedOf(longest)) longest = word;
            }
            return longest;
        }

        private int matchedOf(int word) {
            String whole = wordOf(word);
            int matched = 0;
            while (matched < whole.length() && letterAt(at + matched) == whole.charAt(matched)) matched++;
            return matched;
        }

        private static int numbersFrom(int word) {
            return word >= 0 && word < NUMBERS_FROM.length ? NUMBERS_FROM[word] : 0;
        }

        private static String wordOf(int word) {
            switch (word) {
                case SETUP: return "setup";
                case HOLDER: return "holder";
                case FIRST: return "first";
                case START: return "start";
                case HAIR: return "hair";
                case FINE: return "fine";
                default: return "again";
            }
        }

        private void tellItem(int word) {
            switch (word) {
                case SETUP:
                    told.add(numbers[0], numbers[1], numbers[2], numbers[3], numbers[4], numbers[5]);
                    break;
                case HOLDER:
                    told.put(numbers[0], Loop.HOLDER, numbers[1]);
                    break;
                case FIRST:
                    told.put(numbers[0], Loop.FIRST, numbers[1]);
                    break;
                case START:
                    told.putSetting(Loop.START, numbers[0]);
                    break;
                case HAIR:
                    told.putSetting(Loop.HAIR, numbers[0]);
                    break;
                case FINE:
                    told.putSetting(Loop.FINE, numbers[0]);
                    break;
                default:
                    told.put(numbers[0], Loop.BEHIND, numbers[1]);
                    told.put(numbers[0], Loop.AHEAD, numbers[2]);
            }
        }
    }

    /** One big: the slips of a figure by which the loop would close. */
    private static final class Slips {
        private static final int GREATEST = 9999;
        private static final int SIX_WAS_NINE = 0;
        private static final int NINE_WAS_SIX = 1;
        private static final int NEIGHBOURS = 2;
        private static final int LESS = 3;
        private static final int MORE = 4;
        private static final int OTHER_WAY = 5;

        private int foundInAll;
        private int firstSetUp;
        private int firstReading;
        private int firstSort;
        private int firstValue;

        // Of the set-up that is looked at.
        private int setUp;
        private int behind;
        private int ahead;
        private int othersOff;
        private int reading;

        int found() {
            return foundInAll;
        }

        int firstOf(int what) {
            switch (what) {
                case 0: return firstSetUp;
                case 1: return firstReading;
                case 2: return firstSort;
                default: return firstValue;
            }
        }

        void search(Loop loop) {
            foundInAll = 0;
            int off = loop.risesAheadOf(loop.count());
            for (int i = 0; i < loop.count(); i++) {
                setUp = i;
                behind = loop.get(i, Loop.BEHIND);
                ahead = loop.get(i, Loop.AHEAD);
                othersOff = off - loop.riseOf(i);
                reading = 0;
                slipsOf(loop, behind);
                consider(loop, OTHER_WAY, ahead);
                reading = 1;
                slipsOf(loop, ahead);
            }
        }

        private void slipsOf(Loop loop, int v) {
            for (int place = 1000; place >= 1; place /= 10) {
                if (v / place % 10 == 6) consider(loop, SIX_WAS_NINE, v + 3 * place);
            }
            for (int place = 1000; place >= 1; place /= 10) {
                if (v / place % 10 == 9) consider(loop, NINE_WAS_SIX, v - 3 * place);
            }
            for (int place = 100; place >= 1; place /= 10) {
                int higher = v / place / 10 % 10;
                int lower = v / place % 10;
                if (higher != lower) consider(loop, NEIGHBOURS, v + (lower - higher) * 9 * place);
            }
            consider(loop, LESS, v - 100);
            consider(loop, MORE, v + 100);
        }

        private void consider(Loop loop, int sort, int v) {
            if (v < 0 || v > GREATEST) return;
            int booked = reading == 0 ? v - ahead : behind - v;
            if (sort == OTHER_WAY) booked = ahead - behind;
            if (othersOff + booked - loop.errorOf(setUp, booked) != 0) return;
            if (foundInAll == 0) {
                firstSetUp = setUp;
                firstReading = reading;
                firstSort = sort;
                firstValue = v;
            }
            foundInAll++;
        }
    }

    /** In which order to read so that what sinks goes out: of all sums the least bits that make it. */
    private static final class SinkOrder {
        private static final int MOST_SUNK = 18 * Loop.MOST_SETUPS;

        // At MOST_SUNK + sum: the least bits by which the errors so far make that sum; NONE: none do.
        private final int[] bitsBySum = new int[2 * MOST_SUNK + 1];
        private final int[] next = new int[2 * MOST_SUNK + 1];
        private int bits;
        private int together;

        int leastBits() {
            return bits;
        }

        int errorsTogether() {
            return together;
        }

        void search(Loop loop) {
            for (int i = 0; i < bitsBySum.length; i++) bitsBySum[i] = NONE;
            bitsBySum[MOST_SUNK] = 0;
            for (int setUp = 0; setUp < loop.count(); setUp++) {
                int sunk = loop.sunkBy(setUp);
                if (sunk > 0) addOne(sunk, 1 << setUp);
            }
            pickNearest();
        }

        // Its bit is above all so far, so that 0 is always the lesser.
        private void addOne(int sunk, int bit) {
            for (int sum = -MOST_SUNK; sum <= MOST_SUNK; sum++) {
                int lesser = bitsOf(sum - sunk);
                int greater = bitsOf(sum + sunk);
                next[MOST_SUNK + sum] = lesser != NONE ? lesser : greater != NONE ? greater | bit : NONE;
            }
            System.arraycopy(next, 0, bitsBySum, 0, next.length);
        }

        private int bitsOf(int sum) {
            return sum >= -MOST_SUNK && sum <= MOST_SUNK ? bitsBySum[MOST_SUNK + sum] : NONE;
        }

        private void pickNearest() {
            bits = NONE;
            for (int near = 0; near <= MOST_SUNK && bits == NONE; near++) {
                int above = bitsOf(near);
                int below = bitsOf(-near);
                boolean isAbove = above != NONE && (below == NONE || above <= below);
                bits = isAbove ? above : below;
                together = isAbove ? near : -near;
            }
        }
    }

    /** Parts between known stones, and which of them is farthest from what it should be. */
    private static final class KnownParts {
        private static final int NOT_KNOWN = -32768;

        private int worstStone;
        private long worstOff;

        int worst() {
            return worstStone;
        }

        int worstBy() {
            return (int) worstOff;
        }

        void search(Loop loop, Shelves shelves, int s) {
            boolean any = false;
            int begin = 0;
            long known = loop.setting(Loop.START);
            long rises = 0;
            for (int stone = 1; stone <= loop.count(); stone++) {
                rises += loop.riseOf(stone - 1);
                boolean isEnd = stone == loop.count();
                int told = isEnd ? loop.setting(Loop.START) : shelves.numberAt(s, stone);
                if (isEnd || told != NOT_KNOWN) {
                    long off = rises - (told - known);
                    if (!any || Math.abs(off) > Math.abs(worstOff)) {
                        worstStone = begin;
                        worstOff = off;
                    }
                    any = true;
                    begin = stone;
                    known = told;
                    rises = 0;
                }
            }
        }
    }

    /** Acts of set-ups by the bodies of their kinds, and the trace of these. */
    private static final class Acts {
        static final int ACTS = 3;
        private static final int READS = 0;
        private static final int SINKS = 1;
        private static final int CLOSES = 2;
        private static final int KEPT = 20;
        // What runs goes from closes to sinks to reads and up the kinds: far fewer levels than these.
        private static final int DEEPEST = 40;

        // Of each kind: the number of its body for reads, sinks, closes; 0: it has none of its own.
        private static final int[] BODIES = {
            10, 11, 12,
            20, 0, 0,
            0, 30, 0,
            0, 40, 0,
            51, 0, 50,
            0, 0, 60,
            70, 71, 0};

        private final int[] kept = new int[KEPT];
        private int ran;
        private int kind;
        private int m;
        private int k;

        void forget() {
            ran = 0;
        }

        int ranInAll() {
            return ran;
        }

        int bodyAt(int i) {
            return i >= 0 && i < ran && i < KEPT ? kept[i] : NONE;
        }

        int perform(int ofKind, int number, int a, int act, int x) {
            kind = ofKind;
            m = number;
            k = a;
            return run(this, ofKind, act, x, 0);
        }

        private void note(int body) {
            if (ran < KEPT) kept[ran] = body;
            ran++;
        }

        private static int bodyOf(int from, int act) {
            int up = from;
            for (int level = 0; level < ACTS && up != NONE; level++) {
                int i = ACTS * up + act;
                if (i >= 0 && i < BODIES.length && BODIES[i] != 0) return BODIES[i];
                up = Kind.above(up);
            }
            return 0;
        }

        // The body of that kind, or of the next above it that has one.
        private static int run(Acts by, int from, int act, int x, int depth) {
            if (depth >= DEEPEST) return 0;
            int deeper = depth + 1;
            int body = bodyOf(from, act);
            by.note(body);
            switch (body) {
                case 10: return x + by.m;
                case 11: return run(by, by.kind, READS, x, deeper) * 2;
                case 12: {
                    int sunk = run(by, by.kind, SINKS, x, deeper);
                    return sunk ^ run(by, by.kind, READS, x - by.k, deeper);
                }
                case 20: return run(by, Kind.SETUP, READS, x, deeper) + by.k;
                case 30: return run(by, Kind.SETUP, SINKS, x, deeper) * 3;
                case 40: return run(by, Kind.UNEVEN, SINKS, x + 1, deeper);
                case 50: return -run(by, Kind.SETUP, CLOSES, x, deeper);
                case 51: return run(by, Kind.SETUP, READS, x, deeper) - by.m;
                case 60: return run(by, Kind.SINKING, CLOSES, x, deeper) ^ 5;
                case 70: return run(by, Kind.LEANING, READS, x, deeper) * 2;
                case 71: return run(by, Kind.LEANING, SINKS, x - by.k, deeper);
                default: return 0;
            }
        }
    }
}
