import java.util.ArrayList;
import java.util.List;
import java.util.Random;

/** Loops by (seeded) chance against the document done over again in the plainest way, acts by Java's own super. */
public final class ModelTest {
    private static final int LOOPS = 3000;
    private static final long FAR = -1000000;

    private static class SetUp {
        int kind;
        int a;
        int behind;
        int ahead;
        int back;
        int on;
        int holder;
        int first;
        int m;
        List<Integer> trace = new ArrayList<>();

        int reads(int x) {
            trace.add(10);
            return x + m;
        }

        int sinks(int x) {
            trace.add(11);
            return reads(x) * 2;
        }

        int closes(int x) {
            trace.add(12);
            return sinks(x) ^ reads(x - a);
        }

        int error(int hair, int booked) {
            return 0;
        }

        int yards() {
            return back + on;
        }

        int rise(int hair) {
            return behind - ahead - error(hair, behind - ahead);
        }

        int weight() {
            return kind == 0 ? 1 : kind == 1 || kind == 2 || kind == 4 ? 2 : 3;
        }
    }

    private static class Uneven extends SetUp {
        @Override int reads(int x) {
            trace.add(20);
            return super.reads(x) + a;
        }

        @Override int error(int hair, int booked) {
            return hair * (back - on) / 10;
        }
    }

    private static class Sinking extends SetUp {
        @Override int sinks(int x) {
            trace.add(30);
            return super.sinks(x) * 3;
        }

        int sunk() {
            return a;
        }

        @Override int error(int hair, int booked) {
            return first == 0 ? sunk() : -sunk();
        }
    }

    private static final class Slope extends Uneven {
        @Override int sinks(int x) {
            trace.add(40);
            return super.sinks(x + 1);
        }

        @Override int error(int hair, int booked) {
            return 2 * super.error(hair, booked);
        }
    }

    private static class Leaning extends SetUp {
        @Override int closes(int x) {
            trace.add(50);
            return -super.closes(x);
        }

        @Override int reads(int x) {
            trace.add(51);
            return super.reads(x) - m;
        }

        @Override int error(int hair, int booked) {
            return booked > 0 ? a : booked < 0 ? -a : 0;
        }
    }

    private static final class Bog extends Sinking {
        @Override int closes(int x) {
            trace.add(60);
            return super.closes(x) ^ 5;
        }

        @Override int sunk() {
            return 2 * a;
        }
    }

    private static final class Noon extends Leaning {
        @Override int reads(int x) {
            trace.add(70);
            return super.reads(x) * 2;
        }

        @Override int sinks(int x) {
            trace.add(71);
            return super.sinks(x - a);
        }

        @Override int error(int hair, int booked) {
            int error = super.error(hair, booked);
            if (yards() < 100 || booked == 0) return error;
            return booked > 0 ? error + 1 : error - 1;
        }
    }

    private final Random chance;
    private final BackToTheFirstStone x = new BackToTheFirstStone();
    private final List<SetUp> loop = new ArrayList<>();
    private int start = 0;
    private int hair = 1;

    private ModelTest(long seed) {
        chance = new Random(seed);
    }

    public static void main(String[] args) {
        for (int i = 0; i < LOOPS; i++) new ModelTest(i).run();
        for (int i = 0; i < LOOPS; i++) anyCalls(new Random(i));
        Checks.end("ModelTest");
    }

    private static void is(String what, long got, long want) {
        Checks.is(what, got, want);
    }

    private void run() {
        start = chance.nextInt(19999) - 9999;
        hair = chance.nextInt(10);
        x.ask(0, start);
        x.ask(1, hair);
        int n = chance.nextInt(17);
        for (int i = 0; i < n; i++) add(i);
        if (n < 16) addAndDrop();
        if (n > 0 && chance.nextInt(3) > 0) nearlyClose();
        heights();
        spreads();
        oneBig();
        if (n > 0) knownParts();
        goAgain();
        sinkOrder();
        meets();
        holders();
        longAndSteep();
        acts();
        turn();
    }

    private static SetUp ofKind(int kind) {
        SetUp made = kind == 0 ? new SetUp() : kind == 1 ? new Uneven() : kind == 2 ? new Sinking()
            : kind == 3 ? new Slope() : kind == 4 ? new Leaning() : kind == 5 ? new Bog() : new Noon();
        made.kind = kind;
        return made;
    }

    private void add(int m) {
        SetUp made = ofKind(chance.nextInt(7));
        boolean small = chance.nextBoolean();
        made.m = m;
        made.a = chance.nextInt(10);
        made.behind = small ? chance.nextInt(200) : chance.nextInt(10000);
        made.ahead = small ? chance.nextInt(200) : chance.nextInt(10000);
        made.back = 1 + chance.nextInt(99);
        made.on = 1 + chance.nextInt(99);
        made.holder = chance.nextInt(4);
        made.first = chance.nextInt(2);
        is("setup", x.setup(made.kind, made.a, made.behind, made.ahead, made.back, made.on), m);
        x.tell(m, 2, made.holder);
        x.tell(m, 3, made.first);
        loop.add(made);
    }

    // What is dropped may leave no trace in any answer.
    private void addAndDrop() {
        x.setup(chance.nextInt(7), chance.nextInt(10), chance.nextInt(10000), chance.nextInt(10000), 99, 99);
        is("drop", x.drop(), loop.size());
    }

    // So that one slip often makes it.
    private void nearlyClose() {
        SetUp last = loop.get(loop.size() - 1);
        int[] slips = {0, 3, -3, 30, -300, 100, -100, 9, 90, 900, -27};
        int behind = last.behind - off() + slips[chance.nextInt(slips.length)];
        if (behind < 0 || behind > 9999) return;
        last.behind = behind;
        x.tell(last.m, 0, behind);
    }

    private int off() {
        int off = 0;
        for (SetUp one : loop) off += one.rise(hair);
        return off;
    }

    private int height(int stone) {
        int height = start;
        for (int i = 0; i < stone; i++) height += loop.get(i).rise(hair);
        return height;
    }

    private void heights() {
        int raw = 0;
        for (SetUp one : loop) raw += one.behind - one.ahead;
        is("off(0)", x.off(0), off());
        is("off(1)", x.off(1), raw);
        is("off(2)", x.off(2), 5 * (int) Math.sqrt(loop.size()));
        is("off(3)", x.off(3), Math.abs(off()) > 5 * (int) Math.sqrt(loop.size()) ? 1 : 0);
        for (int stone = 0; stone <= loop.size(); stone++) is("height", x.height(stone), height(stone));
        for (SetUp one : loop) is("error", x.setupOf(one.m, 9), one.error(hair, one.behind - one.ahead));
    }

    private void spreads() {
        for (int law = 0; law < 3 && !loop.isEmpty(); law++) {
            long all = weights(law, loop.size());
            for (int stone = 0; stone <= loop.size(); stone++) {
                is("spread", x.spread(law, stone), height(stone) - off() * weights(law, stone) / all);
            }
        }
    }

    private long weights(int law, int stone) {
        long sum = 0;
        for (int i = 0; i < stone; i++) sum += (long) Math.pow(loop.get(i).yards(), law);
        return sum;
    }

    // {set-up, reading, sort, value} of each slip that closes the loop; readings as texts of four figures.
    private List<int[]> slips() {
        List<int[]> found = new ArrayList<>();
        for (SetUp one : loop) {
            int behind = one.behind;
            int ahead = one.ahead;
            for (int reading = 0; reading < 2; reading++) {
                int read = reading == 0 ? behind : ahead;
                for (int[] meant : meantBy(read)) {
                    if (reading == 0) one.behind = meant[1]; else one.ahead = meant[1];
                    if (off() == 0) found.add(new int[] {one.m, reading, meant[0], meant[1]});
                    one.behind = behind;
                    one.ahead = ahead;
                }
                if (reading == 1) continue;
                one.behind = ahead;
                one.ahead = behind;
                if (off() == 0) found.add(new int[] {one.m, 0, 5, ahead});
                one.behind = behind;
                one.ahead = ahead;
            }
        }
        return found;
    }

    private static List<int[]> meantBy(int v) {
        List<int[]> meant = new ArrayList<>();
        String figures = String.format("%04d", v);
        for (int sort = 0; sort < 2; sort++) {
            char is = sort == 0 ? '6' : '9';
            char was = sort == 0 ? '9' : '6';
            for (int i = 0; i < 4; i++) {
                if (figures.charAt(i) != is) continue;
                meant.add(new int[] {sort, Integer.parseInt(figures.substring(0, i) + was + figures.substring(i + 1))});
            }
        }
        for (int i = 0; i < 3; i++) {
            char high = figures.charAt(i);
            char low = figures.charAt(i + 1);
            String other = figures.substring(0, i) + low + high + figures.substring(i + 2);
            if (high != low) meant.add(new int[] {2, Integer.parseInt(other)});
        }
        if (v >= 100) meant.add(new int[] {3, v - 100});
        if (v <= 9899) meant.add(new int[] {4, v + 100});
        return meant;
    }

    private void oneBig() {
        List<int[]> found = slips();
        is("big(-1)", x.big(-1), found.size());
        for (int what = 0; what < 4; what++) {
            is("big(" + what + ")", x.big(what), found.isEmpty() ? -5 : found.get(0)[what]);
        }
    }

    private void knownParts() {
        int n = loop.size();
        int[] known = new int[n];
        x.row(0, 2, n);
        for (int i = 0; i < n; i++) {
            known[i] = chance.nextInt(3) == 0 ? height(i) + chance.nextInt(41) - 20 : -32768;
            x.set(0, i, known[i]);
        }
        int worst = -1;
        long by = 0;
        for (int from = 0; from < n; from++) {
            if (from > 0 && known[from] == -32768) continue;
            int to = from + 1;
            while (to < n && known[to] == -32768) to++;
            long should = (long) (to == n ? start : known[to]) - (from == 0 ? start : known[from]);
            long is = height(to) - height(from) - should;
            if (worst == -1 || Math.abs(is) > Math.abs(by)) {
                worst = from;
                by = is;
            }
        }
        is("parts(0)", x.parts(0, 0), worst);
        is("parts(1)", x.parts(0, 1), (int) by);
    }

    private void goAgain() {
        int n = chance.nextInt(800);
        int best = -1;
        int most = 0;
        for (int first = 0; first < loop.size(); first++) {
            for (int last = first; last < loop.size(); last++) {
                int yards = 0;
                int weight = 0;
                for (int i = first; i <= last; i++) {
                    yards += loop.get(i).yards();
                    weight += loop.get(i).weight();
                }
                if (yards <= n && weight > most) {
                    most = weight;
                    best = 100 * first + last;
                }
            }
        }
        is("again", x.again(n), best);
    }

    private void sinkOrder() {
        int may = 0;
        for (SetUp one : loop) if (one instanceof Sinking) may |= 1 << one.m;
        int best = 0;
        int bestSum = Integer.MAX_VALUE;
        for (int bits = 0; bits < 1 << loop.size(); bits++) {
            if ((bits & ~may) != 0) continue;
            int sum = 0;
            for (SetUp one : loop) {
                if (one instanceof Sinking sinking) sum += (bits >> one.m & 1) == 0 ? sinking.sunk() : -sinking.sunk();
            }
            if (Math.abs((long) sum) < Math.abs((long) bestSum)) {
                best = bits;
                bestSum = sum;
            }
        }
        is("order(0)", x.order(0), best);
        is("order(1)", x.order(1), bestSum);
    }

    private void meets() {
        int height = chance.nextInt(60001) - 30000;
        for (int stone = 0; stone <= loop.size(); stone++) {
            boolean is = stone > 0 && stone < loop.size();
            long above = height - height(stone);
            is("meet(0)", x.meet(stone, height, 0), is ? above : FAR - 5);
            long part = is ? above * weights(1, stone) / weights(1, loop.size()) : 0;
            is("meet(1)", x.meet(stone, height, 1), is ? part : FAR - 5);
        }
    }

    private void holders() {
        int[] sums = new int[4];
        for (SetUp one : loop) sums[one.holder] += one.rise(hair);
        int most = 0;
        for (int h = 0; h < 4; h++) if (Math.abs(sums[h]) > Math.abs(sums[most])) most = h;
        is("crooked(0)", x.crooked(0), loop.isEmpty() ? FAR - 5 : most);
        is("crooked(1)", x.crooked(1), loop.isEmpty() ? FAR - 5 : sums[most]);
    }

    private void longAndSteep() {
        int longest = -5;
        int steepest = -5;
        int yards = 0;
        for (SetUp one : loop) {
            int booked = Math.abs(one.behind - one.ahead);
            if (longest < 0 || one.yards() > loop.get(longest).yards()) longest = one.m;
            if (steepest < 0 || booked > Math.abs(loop.get(steepest).behind - loop.get(steepest).ahead)) steepest = one.m;
            yards += one.yards();
        }
        is("most(0)", x.most(0), longest);
        is("most(1)", x.most(1), steepest);
        is("hours", x.hours(), (int) Math.ceil((yards + 10 * loop.size()) / 60.0));
        is("status(1)", x.status(1), yards);
    }

    private void acts() {
        for (SetUp one : loop) {
            int act = chance.nextInt(3);
            int arg = chance.nextInt();
            one.trace.clear();
            int due = act == 0 ? one.reads(arg) : act == 1 ? one.sinks(arg) : one.closes(arg);
            is("act", x.act(one.m, act, arg), due);
            is("bodies", x.status(6), one.trace.size());
            for (int i = 0; i < one.trace.size(); i++) is("trace", x.trace(i), one.trace.get(i));
        }
    }

    private void turn() {
        x.turn();
        int n = loop.size();
        for (int i = 0; i < n; i++) {
            SetUp one = loop.get(n - 1 - i);
            int[] due = {one.kind, one.a, one.ahead, one.behind, one.on, one.back, one.holder, 1 - one.first};
            for (int what = 0; what < 8; what++) is("turned " + what, x.setupOf(i, what), due[what]);
        }
    }

    // Whatever is asked in whatever state: nothing is thrown, and refusals are of the seven numbers.
    private static void anyCalls(Random chance) {
        BackToTheFirstStone y = new BackToTheFirstStone();
        for (int i = 0; i < 500; i++) anyCall(y, chance);
        int refused = 0;
        for (int number = 11; number <= 17; number++) refused += y.status(number);
        is("set-ups in bounds", y.status(0) >= 0 && y.status(0) <= 16 ? 1 : 0, 1);
        is("refusals in bounds", refused >= 0 && refused <= 500 ? 1 : 0, 1);
    }

    private static int any(Random chance, int few) {
        int[] edges = {-1, 0, 1, Integer.MIN_VALUE, Integer.MAX_VALUE, 160, 161, 9999, 1 << 29, 1 << 30};
        return chance.nextInt(12) == 0 ? edges[chance.nextInt(edges.length)] : chance.nextInt(few);
    }

    private static void anyCall(BackToTheFirstStone y, Random r) {
        switch (r.nextInt(38)) {
            case 0: y.row(any(r, 8), any(r, 4), any(r, 161)); break;
            case 1: y.set(any(r, 8), any(r, 160), r.nextLong()); break;
            case 2: y.copy(any(r, 8), any(r, 8), any(r, 9), any(r, 9), any(r, 9)); break;
            case 3: y.element(any(r, 8), any(r, 160)); break;
            case 4: y.show(any(r, 8), any(r, 16)); break;
            case 5: y.holds(any(r, 8)); break;
            case 6: y.says(any(r, 8), any(r, 7)); break;
            case 7:
            case 8:
            case 9: y.setup(any(r, 7), any(r, 10), any(r, 9999), any(r, 9999), any(r, 100), any(r, 100)); break;
            case 10: y.setupOf(any(r, 16), any(r, 11)); break;
            case 11: y.tell(any(r, 16), any(r, 4), any(r, 9999)); break;
            case 12: y.ask(any(r, 3), any(r, 100)); break;
            case 13: y.loop(any(r, 8)); break;
            case 14: y.fault(); break;
            case 15: y.height(any(r, 16)); break;
            case 16: y.off(any(r, 4)); break;
            case 17: y.spread(any(r, 3), any(r, 16)); break;
            case 18: y.big(any(r, 4)); break;
            case 19: y.parts(any(r, 8), any(r, 2)); break;
            case 20: y.again(any(r, 999)); break;
            case 21: y.order(any(r, 2)); break;
            case 22: y.meet(any(r, 16), any(r, 9999), any(r, 2)); break;
            case 23: y.rose(any(r, 8), any(r, 8), any(r, 41)); break;
            case 24: y.crooked(any(r, 2)); break;
            case 25: y.most(any(r, 2)); break;
            case 26: y.hours(); break;
            case 27: y.judge(any(r, 8), any(r, 17)); break;
            case 28: y.closes(any(r, 8), any(r, 17)); break;
            case 29: y.done(any(r, 8), any(r, 17)); break;
            case 30: y.drop(); break;
            case 31: y.turn(); break;
            case 32: y.seasons(any(r, 61)); break;
            case 33: y.seed(r.nextInt()); break;
            case 34: y.act(any(r, 16), any(r, 3), r.nextInt()); break;
            case 35: y.trace(any(r, 20)); break;
            case 36: y.image(); break;
            default: y.restore();
        }
    }
}
