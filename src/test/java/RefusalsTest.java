import java.util.function.Supplier;
import java.util.function.ToLongFunction;

/**
 * Each refusal of each promise, its place among several, and that it changes nothing: of two objects made alike
 * one gets the refused call, and both are asked all there is to ask, behind THE IMAGE too.
 */
public final class RefusalsTest extends Dues {
    private static final int[] FAR = {MIN, MIN + 1, -65536, -2, 100, 65536, MAX - 1, MAX};

    // ---- worlds: each ends with an act, so that there is a TRACE

    private static TrueHeard empty() {
        TrueHeard x = new TrueHeard();
        x.image();
        feed(x, "h=0");
        return x;
    }

    /** Some of all, and an IMAGE that is other than it. */
    private static TrueHeard some() {
        TrueHeard x = new TrueHeard();
        coast(x, "turn 1 t=0;drift 1 t=1;dear 5 k=1");
        things(x, 3);
        x.way(6, 1, 2, 3);
        x.way(1, 4, 5, 6);
        saying(x, "a=1");
        x.row(2);
        x.heed(0, 1);
        feed(x, "b=");
        x.image();
        x.thing(2);
        x.bribe(0, 2);
        coast(x, "");
        coast(x, "turn 2 t=0&h>0;drift 1 t=1;drift 2 h=1");
        saying(x, "a=3|b<2");
        x.hour(2);
        x.row(-1);
        x.row(3);
        x.row(1);
        x.heed(1, 0);
        feed(x, "!h=1&b");
        x.feed('>');
        x.feed('0');
        x.act(1, 2, 7);
        return x;
    }

    /** All at its most but the HOUR. */
    private static TrueHeard most() {
        TrueHeard x = mostButTexts();
        for (int i = 0; i < 5; i++) {
            saying(x, "a=" + i);
        }
        for (int i = 0; i < 5; i++) {
            coast(x, "turn " + i + " t=0");
        }
        feed(x, "turn 1 t=1" + "|t=2".repeat(22) + "  ");
        return x;
    }

    private static TrueHeard mostCoasts() {
        TrueHeard x = mostButTexts();
        for (int i = 0; i < 5; i++) {
            coast(x, "turn " + i + " t=0");
        }
        feed(x, "b=2");
        return x;
    }

    private static TrueHeard mostSayings() {
        TrueHeard x = mostButTexts();
        for (int i = 0; i < 5; i++) {
            saying(x, "a=" + i);
        }
        feed(x, "turn 3 t=0&s>0");
        return x;
    }

    private static TrueHeard mostButTexts() {
        TrueHeard x = new TrueHeard();
        things(x, 1, 2, 3, 0);
        for (int i = 0; i < 5; i++) {
            x.way(6 - i, 9, 6, 99);
        }
        for (int i = 0; i < 12; i++) {
            x.row(1);
        }
        x.act(2, 2, 7);
        return x;
    }

    // ---- what is asked of twins

    /** All that can be asked; what is on THE TAPE by reading it, THE IMAGE by going back to it. */
    private static String told(TrueHeard x) {
        StringBuilder told = new StringBuilder();
        ask(x, told);
        told.append(x.count(2) < 5 ? x.saying() : x.coast()).append(' ');
        askSayings(x, told);
        told.append(x.row(0)).append(' ').append(x.undo()).append('\n');
        ask(x, told);
        told.append(x.saying());
        return told.toString();
    }

    private static void ask(TrueHeard x, StringBuilder told) {
        told.append(x.now()).append(' ').append(x.looked()).append(' ');
        for (int i = 0; i <= 6; i++) {
            told.append(x.count(i)).append(' ').append(x.trace(i)).append(' ');
        }
        for (int i = 0; i <= 4; i++) {
            for (int what = 0; what <= 6; what++) {
                told.append(what > 2 ? 0 : x.of(i, what)).append(' ').append(x.at(i, what)).append(' ');
            }
        }
        askSayings(x, told);
        told.append('\n');
    }

    private static void askSayings(TrueHeard x, StringBuilder told) {
        for (int i = 0; i <= 4; i++) {
            told.append(x.odds(i, 1, 0)).append(' ').append(x.self(i, 0, 1, 0)).append(' ');
            told.append(x.begin(i, 0, 0)).append(' ').append(x.tell(i, 0)).append(' ');
        }
    }

    /** A call that is refused leaves all as it was. */
    private static void refused(String call, Supplier<TrueHeard> world, long want, ToLongFunction<TrueHeard> refused) {
        TrueHeard x = world.get();
        TrueHeard twin = world.get();
        due(call, refused.applyAsLong(x), want);
        due(call + ": nothing is changed by it", told(x).equals(told(twin)) ? 1 : 0, 1);
    }

    private interface Numbered {
        long of(TrueHeard x, int n);
    }

    /** By each number just outside least to most, and far from them. */
    private static void outside(String call, int least, int most, long want, Numbered refused) {
        refused(call + " by " + (least - 1), RefusalsTest::some, want, x -> refused.of(x, least - 1));
        refused(call + " by " + (most + 1), RefusalsTest::some, want, x -> refused.of(x, most + 1));
        for (int n : FAR) {
            if (n < least || n > most) {
                refused(call + " by " + n, RefusalsTest::some, want, x -> refused.of(x, n));
            }
        }
    }

    // ---- promises 2 to 12: coasts, things, ways, sayings

    private static void texts() {
        about("feed: BAD; FULL");
        outside("feed", 0, 127, BAD, (x, n) -> x.feed(n));
        refused("feed('1') to a full one", RefusalsTest::most, FULL, x -> x.feed('1'));
        refused("BAD ahead of FULL", RefusalsTest::most, BAD, x -> x.feed(128));
        refused("BAD ahead of FULL", RefusalsTest::most, BAD, x -> x.feed(-1));
        about("coast: FULL (ahead of all; THE TAPE stays)");
        refused("coast()", RefusalsTest::mostCoasts, FULL, TrueHeard::coast);
        refused("coast() of a full TAPE", RefusalsTest::most, FULL, TrueHeard::coast);
        about("saying: FULL (THE TAPE stays)");
        refused("saying()", RefusalsTest::mostSayings, FULL, TrueHeard::saying);
        refused("saying() of a full TAPE", RefusalsTest::most, FULL, TrueHeard::saying);
    }

    private static void faults() {
        about("coast: by a FAULT, THE TAPE is empty, the one that held holds");
        TrueHeard x = some();
        due("coast()", x.coast(), -10);
        due("count(5)", x.count(5), 0);
        due("count(3)", x.count(3), 2);
        due("TURNS", x.of(0, 1), 2);
        due("empty now", x.coast(), -10);
        due("count(3)", x.count(3), 2);
        due("the next one's number", coast(x, "turn 0 t=0"), 2);
        about("saying: by a FAULT, THE TAPE is empty");
        TrueHeard y = some();
        y.feed('x');
        due("saying()", y.saying(), -18);
        due("count(5)", y.count(5), 0);
        due("count(2)", y.count(2), 2);
        due("the next one's number", saying(y, "h=1"), 2);
    }

    private static void things() {
        about("thing: BAD; FULL");
        outside("thing", 0, 3, BAD, (x, n) -> x.thing(n));
        refused("thing(0)", RefusalsTest::most, FULL, x -> x.thing(0));
        refused("BAD ahead of FULL", RefusalsTest::most, BAD, x -> x.thing(4));
        refused("BAD ahead of FULL", RefusalsTest::most, BAD, x -> x.thing(-1));
        about("put: NONE; BAD");
        outside("put(n, 0)", 0, 1, NONE, (x, n) -> x.put(n, 0));
        outside("put(0, n)", 0, 3, BAD, (x, n) -> x.put(0, n));
        outside("NONE ahead of BAD", 0, 1, NONE, (x, n) -> x.put(n, 4));
        refused("without THINGS", RefusalsTest::empty, NONE, x -> x.put(0, 0));
        refused("put(4, 0) of four", RefusalsTest::most, NONE, x -> x.put(4, 0));
        about("of: NONE");
        outside("of(n, 0)", 0, 1, NONE, (x, n) -> x.of(n, 0));
        outside("of(0, n)", 0, 2, NONE, (x, n) -> x.of(0, n));
        refused("without THINGS", RefusalsTest::empty, NONE, x -> x.of(0, 0));
    }

    private static void ways() {
        about("way: NONE: kind; BAD: v, hours, cost; FULL");
        outside("way(n, 0, 0, 0)", 0, 6, NONE, (x, n) -> x.way(n, 0, 0, 0));
        outside("way(0, n, 0, 0)", 0, 9, BAD, (x, n) -> x.way(0, n, 0, 0));
        outside("way(0, 0, n, 0)", 0, 6, BAD, (x, n) -> x.way(0, 0, n, 0));
        outside("way(0, 0, 0, n)", 0, 99, BAD, (x, n) -> x.way(0, 0, 0, n));
        outside("NONE ahead of BAD", 0, 6, NONE, (x, n) -> x.way(n, 10, 7, 100));
        refused("way(0, 0, 0, 0)", RefusalsTest::most, FULL, x -> x.way(0, 0, 0, 0));
        refused("NONE ahead of FULL", RefusalsTest::most, NONE, x -> x.way(7, 0, 0, 0));
        refused("BAD (v) ahead of FULL", RefusalsTest::most, BAD, x -> x.way(0, 10, 0, 0));
        refused("BAD (HOURS) ahead of FULL", RefusalsTest::most, BAD, x -> x.way(0, 0, 7, 0));
        refused("BAD (COST) ahead of FULL", RefusalsTest::most, BAD, x -> x.way(0, 0, 0, 100));
        refused("NONE ahead of all", RefusalsTest::most, NONE, x -> x.way(-1, -1, -1, -1));
        about("at: NONE");
        outside("at(n, 0)", 0, 1, NONE, (x, n) -> x.at(n, 0));
        outside("at(0, n)", 0, 6, NONE, (x, n) -> x.at(0, n));
        refused("without WAYS", RefusalsTest::empty, NONE, x -> x.at(0, 0));
        refused("at(5, 0) of five", RefusalsTest::most, NONE, x -> x.at(5, 0));
        about("bribe: NONE; BAD; STATE: another KIND");
        outside("bribe(n, 0)", 0, 1, NONE, (x, n) -> x.bribe(n, 0));
        outside("bribe(0, n)", 0, 6, BAD, (x, n) -> x.bribe(0, n));
        outside("NONE ahead of BAD", 0, 1, NONE, (x, n) -> x.bribe(n, 7));
        outside("BAD ahead of STATE", 0, 6, BAD, (x, n) -> x.bribe(1, n));
        refused("without WAYS", RefusalsTest::empty, NONE, x -> x.bribe(0, 0));
        for (int kind = 0; kind <= 5; kind++) {
            int of = kind;
            Supplier<TrueHeard> one = () -> {
                TrueHeard x = new TrueHeard();
                x.way(of, 5, 5, 5);
                return x;
            };
            refused("a " + kind, one, STATE, x -> x.bribe(0, 6));
            refused("a " + kind + " by 0", one, STATE, x -> x.bribe(0, 0));
            refused("a " + kind + " by 7", one, BAD, x -> x.bribe(0, 7));
        }
    }

    private static void hours() {
        about("hour: BAD: bits (0 .. 15); STATE: HOUR is 999");
        outside("hour", 0, 15, BAD, (x, n) -> x.hour(n));
        // Behind the 512th call, from which on any answer would do: this is what the words ask for there.
        Supplier<TrueHeard> last = () -> {
            TrueHeard x = some();
            hours(x, 998);
            return x;
        };
        TrueHeard x = last.get();
        due("now()", x.now(), 999);
        refused("hour(0)", last, STATE, y -> y.hour(0));
        refused("hour(15)", last, STATE, y -> y.hour(15));
        refused("BAD ahead of STATE", last, BAD, y -> y.hour(16));
        refused("BAD ahead of STATE", last, BAD, y -> y.hour(-1));
    }

    // ---- promises 13 to 24: heard

    private static void heard() {
        about("odds: NO: saying, way, part");
        outside("odds(n, 0, 0)", 0, 1, NO, (x, n) -> x.odds(n, 0, 0));
        outside("odds(0, n, 0)", 0, 1, NO, (x, n) -> x.odds(0, n, 0));
        outside("odds(0, 0, n)", 0, 1, NO, (x, n) -> x.odds(0, 0, n));
        about("sure: NONE");
        outside("sure(n, 0)", 0, 1, NONE, (x, n) -> x.sure(n, 0));
        outside("sure(0, n)", 0, 1, NONE, (x, n) -> x.sure(0, n));
        about("tell: NONE");
        outside("tell(n, 0)", 0, 1, NONE, (x, n) -> x.tell(n, 0));
        outside("tell(0, n)", 0, 1, NONE, (x, n) -> x.tell(0, n));
        about("which: NONE");
        outside("which(n)", 0, 1, NONE, (x, n) -> x.which(n));
        refused("NONE ahead of -5", RefusalsTest::empty, NONE, x -> x.which(0));
        about("worth: NO: saying, way, w, f, part");
        outside("worth(n, 0, 0, 0, 0)", 0, 1, NO, (x, n) -> x.worth(n, 0, 0, 0, 0));
        outside("worth(0, n, 0, 0, 0)", 0, 1, NO, (x, n) -> x.worth(0, n, 0, 0, 0));
        outside("worth(0, 0, n, 0, 0)", 0, 99, NO, (x, n) -> x.worth(0, 0, n, 0, 0));
        outside("worth(0, 0, 0, n, 0)", 0, 99, NO, (x, n) -> x.worth(0, 0, 0, n, 0));
        outside("worth(0, 0, 0, 0, n)", 0, 1, NO, (x, n) -> x.worth(0, 0, 0, 0, n));
        about("sit: NONE");
        outside("sit(n, 0)", 0, 1, NONE, (x, n) -> x.sit(n, 0));
        outside("sit(0, n)", 0, 1, NONE, (x, n) -> x.sit(0, n));
        about("self: NO: saying, way, what, part");
        outside("self(n, 0, 0, 0)", 0, 1, NO, (x, n) -> x.self(n, 0, 0, 0));
        outside("self(0, n, 0, 0)", 0, 1, NO, (x, n) -> x.self(0, n, 0, 0));
        outside("self(0, 0, n, 0)", 0, 2, NO, (x, n) -> x.self(0, 0, n, 0));
        outside("self(0, 0, 0, n)", 0, 1, NO, (x, n) -> x.self(0, 0, 0, n));
        about("begin: NONE");
        outside("begin(n, 0, 0)", 0, 1, NONE, (x, n) -> x.begin(n, 0, 0));
        outside("begin(0, n, 0)", 0, 1, NONE, (x, n) -> x.begin(0, n, 0));
        outside("begin(0, 0, n)", 0, 1, NONE, (x, n) -> x.begin(0, 0, n));
    }

    private static void told() {
        about("catches: NONE: ways; BAD: n");
        outside("catches(n, 0, 0)", 0, 1, NONE, (x, n) -> x.catches(n, 0, 0));
        outside("catches(0, n, 0)", 0, 1, NONE, (x, n) -> x.catches(0, n, 0));
        outside("catches(0, 1, n)", 0, 6, BAD, (x, n) -> x.catches(0, 1, n));
        outside("NONE (one) ahead of BAD", 0, 1, NONE, (x, n) -> x.catches(n, 0, 7));
        outside("NONE (other) ahead of BAD", 0, 1, NONE, (x, n) -> x.catches(0, n, -1));
        about("all: NONE");
        outside("all(n)", 0, 1, NONE, (x, n) -> x.all(n));
        refused("without WAYS", RefusalsTest::empty, NONE, x -> x.all(2));
        about("heed: NONE: thing; BAD");
        outside("heed(n, 0)", -1, 1, NONE, (x, n) -> x.heed(n, 0));
        outside("heed(0, n)", 0, 3, BAD, (x, n) -> x.heed(0, n));
        outside("NONE ahead of BAD", -1, 1, NONE, (x, n) -> x.heed(n, 4));
        refused("without THINGS", RefusalsTest::empty, NONE, x -> x.heed(0, 0));
        refused("heed(4, 0) of four", RefusalsTest::most, NONE, x -> x.heed(4, 0));
        about("back: NONE: thing; BAD: state, m");
        outside("back(n, 0, 0)", 0, 1, NONE, (x, n) -> x.back(n, 0, 0));
        outside("back(0, n, 0)", 0, 3, BAD, (x, n) -> x.back(0, n, 0));
        outside("back(0, 0, n)", 0, 6, BAD, (x, n) -> x.back(0, 0, n));
        outside("NONE ahead of BAD (state)", 0, 1, NONE, (x, n) -> x.back(n, 4, 0));
        outside("NONE ahead of BAD (m)", 0, 1, NONE, (x, n) -> x.back(n, 0, 7));
        refused("without THINGS", RefusalsTest::empty, NONE, x -> x.back(0, 0, 0));
    }

    // ---- promises 25 to 32: rows, acts, the image

    private static void rows() {
        about("row: BAD; FULL: 12");
        outside("row(n)", -1, 3, BAD, (x, n) -> x.row(n));
        refused("row(0)", RefusalsTest::most, FULL, x -> x.row(0));
        refused("BAD ahead of FULL", RefusalsTest::most, BAD, x -> x.row(4));
        refused("BAD ahead of FULL", RefusalsTest::most, BAD, x -> x.row(-2));
        about("looked: STATE: there is no THING 0");
        refused("looked()", RefusalsTest::empty, STATE, TrueHeard::looked);
    }

    private static void acts() {
        about("act: 0, and no TRACE then: no such WAY, act");
        Numbered noWay = (x, n) -> acted(x, n, 0);
        Numbered noAct = (x, n) -> acted(x, 1, n);
        outside("act(n, 0, 9)", 0, 1, 0, noWay);
        outside("act(1, n, 9)", 0, 2, 0, noAct);
        about("trace: NONE");
        outside("trace(n)", 0, 4, NONE, (x, n) -> x.trace(n));
        refused("trace(0) of none", RefusalsTest::empty, NONE, x -> x.trace(0));
        about("as: NONE: way, k; -6: it is of another KIND");
        outside("as(n, 0)", 0, 1, NONE, (x, n) -> x.as(n, 0));
        outside("as(0, n)", 0, 6, NONE, (x, n) -> x.as(0, n));
        outside("NONE (k) ahead of -6", 0, 6, NONE, (x, n) -> x.as(1, n));
        refused("as(0, 1)", RefusalsTest::some, -6, x -> x.as(0, 1));
        about("undo: STATE: there is none");
        refused("undo()", RefusalsTest::mostSayings, STATE, TrueHeard::undo);
        about("count: NONE");
        outside("count(n)", 0, 6, NONE, (x, n) -> x.count(n));
    }

    /** The TRACE goes by it, and comes again as it was. */
    private static long acted(TrueHeard x, int way, int act) {
        long answer = x.act(way, act, 9);
        due("count(6)", x.count(6), 0);
        due("trace(0)", x.trace(0), NONE);
        x.act(1, 2, 7);
        return answer;
    }

    private static void asked(String call, long want, ToLongFunction<TrueHeard> asked) {
        refused(call, RefusalsTest::some, want, asked);
    }

    private static void asked() {
        about("All that follows is asked, and changes nothing");
        asked("odds", 1, x -> x.odds(0, 0, 1));
        asked("sure", 1, x -> x.sure(1, 1));
        asked("tell", 15, x -> x.tell(1, 0));
        asked("which", 1, x -> x.which(1));
        asked("worth", -3, x -> x.worth(0, 0, 0, 0, 0));
        asked("sit", -5, x -> x.sit(0, 0));
        asked("catches", 1, x -> x.catches(0, 1, 0));
        asked("all", 9, x -> x.all(1));
        asked("begin", 4, x -> x.begin(0, 0, 0));
        asked("self", 4, x -> x.self(1, 1, 2, 1));
        asked("back", 15, x -> x.back(1, 0, 6));
        asked("looked", 1, TrueHeard::looked);
        asked("as", 1, x -> x.as(0, 3));
        asked("of", 2, x -> x.of(0, 1));
        asked("at", 2, x -> x.at(0, 6));
        asked("now", 1, TrueHeard::now);
        asked("count", 2, x -> x.count(3));
        asked("trace", 1, x -> x.trace(3));
    }

    public static void main(String[] args) {
        texts();
        faults();
        things();
        ways();
        hours();
        heard();
        told();
        rows();
        acts();
        asked();
        end();
    }
}
