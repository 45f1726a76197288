import java.util.ArrayList;
import java.util.List;

/**
 * Each call by all numbers at their edges together, in worlds of none, some and the most of all, and texts with
 * each sign at each place: each answer, and what can be asked behind it, beside that of the PlainModel.
 */
public final class EdgesTest {
    private static final int MIN = Integer.MIN_VALUE, MAX = Integer.MAX_VALUE;
    private static final int WORLDS = 6;

    private static int wrong;
    private static int asked;

    private final int world;
    private TrueHeard heard;
    private PlainModel model;

    private EdgesTest(int world) {
        this.world = world;
        make();
    }

    // ---- worlds

    private void make() {
        heard = new TrueHeard();
        model = new PlainModel();
        switch (world) {
            case 0: break;
            case 1: makeSome(1, 1, 1, 1); break;
            case 2: makeSome(2, 2, 2, 5); break;
            case 3: makeSome(3, 4, 4, 6); break;
            case 4: makeMost(11); break;
            default: makeMost(12); break;
        }
    }

    private void makeSome(int things, int ways, int sayings, int hours) {
        text("turn 1 t=0;drift 1 t=1&s<3;drift 3 h=2;turn 2 s=3;dear 9 k>3;drift 1 t=2");
        heard.coast();
        model.coast();
        for (int i = 0; i < things; i++) {
            heard.thing(3 - i);
            model.thing(3 - i);
        }
        for (int i = 0; i < ways; i++) {
            heard.way(6 - i, i + 3, i + 1, 9 * i);
            model.way(6 - i, i + 3, i + 1, 9 * i);
        }
        String[] texts = {"a=1", "b>1|a<2&h=4", "!(c=9)&d>8", "b<3", "h<12"};
        for (int i = 0; i < sayings; i++) {
            text(texts[i]);
            heard.saying();
            model.saying();
        }
        heard.image();
        model.image();
        for (int i = 0; i < hours; i++) {
            heard.hour(5);
            model.hour(5);
        }
        heard.heed(0, 2);
        model.heed(0, 2);
        heard.row(2);
        model.row(2);
        text("h=1");
        heard.act(0, 2, 5);
        model.act(0, 2, 5);
    }

    /** The most of all; a ROW and a TAPE that hold one more, or none. */
    private void makeMost(int row) {
        makeSome(4, 5, 5, 2);
        for (int i = 1; i < 5; i++) {
            text("turn " + i + " s=" + i);
            heard.coast();
            model.coast();
        }
        for (int i = 1; i < row; i++) {
            heard.row(2);
            model.row(2);
        }
        while (model.count(5) < 87 + row) {
            text("h");
        }
    }

    private void text(String text) {
        for (int i = 0; i < text.length(); i++) {
            heard.feed(text.charAt(i));
            model.feed(text.charAt(i));
        }
    }

    // ---- each call

    private static long answer(TrueHeard x, String call, int... n) {
        switch (call) {
            case "feed": return x.feed(n[0]);
            case "coast": return x.coast();
            case "saying": return x.saying();
            case "thing": return x.thing(n[0]);
            case "put": return x.put(n[0], n[1]);
            case "of": return x.of(n[0], n[1]);
            case "way": return x.way(n[0], n[1], n[2], n[3]);
            case "at": return x.at(n[0], n[1]);
            case "bribe": return x.bribe(n[0], n[1]);
            case "now": return x.now();
            case "hour": return x.hour(n[0]);
            case "odds": return x.odds(n[0], n[1], n[2]);
            case "sure": return x.sure(n[0], n[1]);
            case "tell": return x.tell(n[0], n[1]);
            case "which": return x.which(n[0]);
            case "worth": return x.worth(n[0], n[1], n[2], n[3], n[4]);
            case "sit": return x.sit(n[0], n[1]);
            case "catches": return x.catches(n[0], n[1], n[2]);
            case "all": return x.all(n[0]);
            case "begin": return x.begin(n[0], n[1], n[2]);
            case "heed": return x.heed(n[0], n[1]);
            case "self": return x.self(n[0], n[1], n[2], n[3]);
            case "back": return x.back(n[0], n[1], n[2]);
            case "row": return x.row(n[0]);
            case "looked": return x.looked();
            case "act": return x.act(n[0], n[1], n[2]);
            case "trace": return x.trace(n[0]);
            case "as": return x.as(n[0], n[1]);
            case "image": return x.image();
            case "undo": return x.undo();
            default: return x.count(n[0]);
        }
    }

    private static long answer(PlainModel x, String call, int... n) {
        switch (call) {
            case "feed": return x.feed(n[0]);
            case "coast": return x.coast();
            case "saying": return x.saying();
            case "thing": return x.thing(n[0]);
            case "put": return x.put(n[0], n[1]);
            case "of": return x.of(n[0], n[1]);
            case "way": return x.way(n[0], n[1], n[2], n[3]);
            case "at": return x.at(n[0], n[1]);
            case "bribe": return x.bribe(n[0], n[1]);
            case "now": return x.now();
            case "hour": return x.hour(n[0]);
            case "odds": return x.odds(n[0], n[1], n[2]);
            case "sure": return x.sure(n[0], n[1]);
            case "tell": return x.tell(n[0], n[1]);
            case "which": return x.which(n[0]);
            case "worth": return x.worth(n[0], n[1], n[2], n[3], n[4]);
            case "sit": return x.sit(n[0], n[1]);
            case "catches": return x.catches(n[0], n[1], n[2]);
            case "all": return x.all(n[0]);
            case "begin": return x.begin(n[0], n[1], n[2]);
            case "heed": return x.heed(n[0], n[1]);
            case "self": return x.self(n[0], n[1], n[2], n[3]);
            case "back": return x.back(n[0], n[1], n[2]);
            case "row": return x.row(n[0]);
            case "looked": return x.looked();
            case "act": return x.act(n[0], n[1], n[2]);
            case "trace": return x.trace(n[0]);
            case "as": return x.as(n[0], n[1]);
            case "image": return x.image();
            case "undo": return x.undo();
            default: return x.count(n[0]);
        }
    }

    private void due(String call, int... n) {
        asked++;
        long got = answer(heard, call, n);
        long want = answer(model, call, n);
        if (got != want) {
            wrong++;
            StringBuilder told = new StringBuilder("world " + world + ": " + call);
            for (int one : n) {
                told.append(' ').append(one);
            }
            System.out.println(told + " answered " + got + ", due is " + want);
        }
    }

    /** What tells most of the state, cheaply; no more is asked of an object than 512 calls. */
    private void ask() {
        due("now");
        due("looked");
        for (int i = 0; i <= 6; i++) {
            due("count", i);
            due("trace", i);
        }
        for (int i = 0; i <= 4; i++) {
            for (int what = 0; what <= 6; what++) {
                due("of", i, what);
                due("at", i, what);
            }
        }
        due("self", 0, 0, 1, 0);
    }

    /** A call by all its numbers together: each in a new world if it changes anything. */
    private static void each(boolean changes, String call, int[]... edges) {
        for (int world = 0; world < WORLDS; world++) {
            List<int[]> all = together(edges);
            EdgesTest in = new EdgesTest(world);
            int calls = 0;
            for (int[] n : all) {
                if (changes || calls == 200) {
                    in.make();
                    calls = 0;
                }
                in.due(call, n);
                calls++;
                if (changes) {
                    in.ask();
                }
            }
            in.ask();
        }
    }

    private static List<int[]> together(int[]... edges) {
        List<int[]> all = new ArrayList<>();
        all.add(new int[0]);
        for (int[] edge : edges) {
            List<int[]> longer = new ArrayList<>();
            for (int[] begun : all) {
                for (int n : edge) {
                    int[] next = java.util.Arrays.copyOf(begun, begun.length + 1);
                    next[begun.length] = n;
                    longer.add(next);
                }
            }
            all = longer;
        }
        return all;
    }

    /** Each from 0 to most, and what is outside that. */
    private static int[] near(int most) {
        int[] near = new int[most + 5];
        near[0] = MIN;
        near[1] = -1;
        for (int i = 0; i <= most + 1; i++) {
            near[i + 2] = i;
        }
        near[most + 4] = MAX;
        return near;
    }

    private static int[] ends(int least, int most) {
        return new int[] {least - 1, least, most, most + 1};
    }

    private static void calls() {
        each(true, "feed", near(128));
        each(true, "coast");
        each(true, "saying");
        each(true, "thing", near(3));
        each(true, "put", near(4), near(3));
        each(false, "of", near(4), near(2));
        each(true, "way", near(6), ends(0, 9), ends(0, 6), ends(0, 99));
        each(false, "at", near(5), near(6));
        each(true, "bribe", near(5), near(6));
        each(true, "hour", near(15));
        each(false, "odds", near(4), near(5), near(1));
        each(false, "sure", near(5), near(5));
        each(false, "tell", near(4), near(5));
        each(false, "which", near(5));
        each(false, "worth", near(4), near(4), ends(0, 99), ends(0, 99), ends(0, 1));
        each(false, "sit", new int[] {-1, 1, 2, 3, 5}, new int[] {-1, 0, 3, 5});
        each(false, "catches", near(5), near(5), near(6));
        each(false, "all", near(1));
        each(false, "begin", new int[] {-1, 1, 4, 5}, new int[] {-1, 3, 4, 5}, near(1));
        each(true, "heed", near(4), near(3));
        each(false, "self", near(4), near(4), near(2), ends(0, 1));
        each(false, "back", near(4), near(3), near(6));
        each(true, "row", near(3));
        each(false, "looked");
        each(true, "act", near(5), near(2), new int[] {MIN, MIN + 1, -1, 0, 1, 1 << 30, 715827883, MAX - 1, MAX});
        each(false, "trace", near(20));
        each(false, "as", near(5), near(6));
        each(true, "image");
        each(true, "undo");
        each(false, "count", near(6));
    }

    // ---- texts

    private static void text(String text, boolean coast) {
        asked++;
        TrueHeard x = new TrueHeard();
        for (int i = 0; i < text.length(); i++) {
            x.feed(text.charAt(i));
        }
        int got = coast ? x.coast() : x.saying();
        int fault = PlainModel.fault(text, coast);
        if (got != (fault < 0 ? 0 : -10 - fault)) {
            wrong++;
            System.out.println(text + " answered " + got + ", the FAULT due is " + fault);
        }
    }

    private static void texts() {
        String[] coasts = {
            "turn 0 t=0;drift 19 !(s<10|h>1)&k=9;dear 9 (((!(t=1))))", "dear 10 !!!!!t=3|((s=1)&k<9)", "drift 1 h=11",
            "turn 1 t=1;".repeat(8) + "dear 10 t<12",
        };
        String[] sayings = {"a=0|!(b<10|c>1)&d=9|h=11", "(((!(a=1))))&!!!!!b=3", "h<9", "a=0|".repeat(24) + "b<10"};
        for (String coast : coasts) {
            signs(coast, true);
        }
        for (String saying : sayings) {
            signs(saying, false);
        }
    }

    /** A text ended at each place, with each sign in the place of another, ahead of it, and without it. */
    private static void signs(String text, boolean coast) {
        for (int at = 0; at <= text.length(); at++) {
            String ahead = text.substring(0, at);
            String behind = text.substring(Math.min(text.length(), at + 1));
            text(ahead, coast);
            text(ahead + behind, coast);
            for (char sign = 0; sign <= 127; sign++) {
                if (at < text.length()) {
                    text(ahead + sign + behind, coast);
                }
                if (text.length() < 100) {
                    text(ahead + sign + text.substring(at), coast);
                }
            }
        }
    }

    public static void main(String[] args) {
        calls();
        texts();
        System.out.println(asked + " answers looked at, " + wrong + " not as due");
        if (wrong != 0) {
            System.exit(1);
        }
    }
}
