import java.util.Random;

/** Many runs of chosen calls on new objects, each answer beside that of the PlainModel. */
public final class ModelTest {
    private static final int RUNS = 600;
    private static final int CALLS = 512;

    private final Random random;
    private final TrueHeard heard = new TrueHeard();
    private final PlainModel model = new PlainModel();
    private final StringBuilder told = new StringBuilder();
    private int calls;

    private ModelTest(long seed) {
        random = new Random(seed);
    }

    public static void main(String[] args) {
        int wrong = 0;
        for (int seed = 0; seed < RUNS && wrong < 5; seed++) {
            ModelTest run = new ModelTest(seed);
            if (!run.goes()) {
                wrong++;
                System.out.println("seed " + seed + ":\n" + run.told);
            }
        }
        System.out.println(wrong == 0 ? "the same as the model" : "not the same as the model");
        if (wrong != 0) {
            System.exit(1);
        }
    }

    private boolean goes() {
        int things = random.nextInt(5);
        int ways = random.nextInt(6);
        boolean texts = random.nextInt(8) > 0;
        while (calls < CALLS) {
            int chosen = random.nextInt(40);
            boolean same;
            if (chosen < things && calls < 40) {
                same = thing();
            } else if (chosen < 10 && calls < 60 && ways > 0) {
                same = way();
            } else if (chosen < 4 && texts) {
                same = text();
            } else {
                same = any();
            }
            if (!same) {
                return false;
            }
        }
        return true;
    }

    private boolean due(String call, long got, long want) {
        calls++;
        told.append(call).append(" answered ").append(got).append(", due is ").append(want).append('\n');
        return got == want;
    }

    /** Mostly within 0 to most, at times outside it. */
    private int near(int most) {
        int kind = random.nextInt(60);
        if (kind == 0) {
            return -1;
        }
        if (kind == 1) {
            return most + 1;
        }
        if (kind == 2) {
            return random.nextInt();
        }
        return random.nextInt(most + 1);
    }

    private boolean thing() {
        int state = near(3);
        return due("thing(" + state + ")", heard.thing(state), model.thing(state));
    }

    private boolean way() {
        int kind = near(6);
        int v = near(9);
        int hours = near(6);
        int cost = random.nextBoolean() ? near(99) : 7;
        return due("way(" + kind + ", " + v + ", " + hours + ", " + cost + ")",
                heard.way(kind, v, hours, cost), model.way(kind, v, hours, cost));
    }

    private boolean feed(int sign) {
        return due("feed(" + sign + ")", heard.feed(sign), model.feed(sign));
    }

    private boolean text() {
        boolean coast = random.nextInt(3) > 0;
        String text = coast ? coastText() : e(random.nextInt(4), "abcdh");
        if (random.nextInt(5) == 0) {
            text = spoil(text);
        }
        for (int i = 0; i < text.length() && calls < CALLS; i++) {
            if (!feed(text.charAt(i))) {
                return false;
            }
        }
        if (coast) {
            return due("coast()", heard.coast(), model.coast());
        }
        return due("saying()", heard.saying(), model.saying());
    }

    private String spoil(String text) {
        String signs = "!!((()&|;tshkabcd<=>0123456789 urnifea~\n";
        int at = random.nextInt(text.length() + 1);
        String sign = String.valueOf(signs.charAt(random.nextInt(signs.length())));
        switch (random.nextInt(3)) {
            case 0: return text.substring(0, at);
            case 1: return text.substring(0, at) + sign + text.substring(at);
            default: return text.substring(0, at) + sign + text.substring(Math.min(text.length(), at + 1));
        }
    }

    private String coastText() {
        StringBuilder text = new StringBuilder();
        int clauses = 1 + random.nextInt(5);
        for (int i = 0; i < clauses; i++) {
            String word = new String[] {"turn", "turn", "drift", "drift", "dear"}[random.nextInt(5)];
            text.append(i == 0 ? "" : ";").append(word).append(' ');
            text.append(random.nextInt(4) == 0 ? random.nextInt(100) : random.nextInt(3));
            text.append(' ').append(e(random.nextInt(3), "tshk"));
        }
        return text.toString();
    }

    private String e(int deep, String names) {
        switch (deep == 0 ? 0 : random.nextInt(5)) {
            case 0: return test(names);
            case 1: return e(deep - 1, names) + "|" + e(deep - 1, names);
            case 2: return e(deep - 1, names) + "&" + e(deep - 1, names);
            case 3: return "!" + (random.nextBoolean() ? test(names) : "(" + e(deep - 1, names) + ")");
            default: return "(" + e(deep - 1, names) + ")";
        }
    }

    private String test(String names) {
        int number = random.nextInt(10) == 0 ? random.nextInt(100) : random.nextInt(4);
        return "" + names.charAt(random.nextInt(names.length())) + "<=>".charAt(random.nextInt(3)) + number;
    }

    private boolean any() {
        switch (random.nextInt(5)) {
            case 0: return little();
            case 1: return changes();
            default: return asks();
        }
    }

    private boolean little() {
        int i = near(6);
        int j = near(6);
        int x = random.nextInt(3) == 0 ? random.nextInt() : random.nextInt(50) - 25;
        switch (random.nextInt(8)) {
            case 0: return due("now()", heard.now(), model.now());
            case 1: return due("count(" + i + ")", heard.count(i), model.count(i));
            case 2: return due("trace(" + i + ")", heard.trace(i), model.trace(i));
            case 3: return due("at(" + i + ", " + j + ")", heard.at(i, j), model.at(i, j));
            case 4: return due("of(" + i + ", " + j + ")", heard.of(i, j), model.of(i, j));
            case 5: return due("as(" + i + ", " + j + ")", heard.as(i, j), model.as(i, j));
            default:
                j = near(2);
                return due("act(" + i + ", " + j + ", " + x + ")", heard.act(i, j, x), model.act(i, j, x));
        }
    }

    private boolean changes() {
        int i = near(4);
        int n = near(random.nextBoolean() ? 3 : 6);
        switch (random.nextInt(11)) {
            case 0: return due("put(" + i + ", " + n + ")", heard.put(i, n), model.put(i, n));
            case 1: return due("bribe(" + i + ", " + n + ")", heard.bribe(i, n), model.bribe(i, n));
            case 2: return due("heed(" + i + ", " + n + ")", heard.heed(i, n), model.heed(i, n));
            case 3: return due("image()", heard.image(), model.image());
            case 4: return due("undo()", heard.undo(), model.undo());
            case 5: case 6: return due("row(" + n + ")", heard.row(n), model.row(n));
            case 7: return thing();
            case 8: return way();
            case 9: return feed(near(127));
            default: {
                int bits = near(15);
                return due("hour(" + bits + ")", heard.hour(bits), model.hour(bits));
            }
        }
    }

    private boolean asks() {
        int s = near(4);
        int w = near(4);
        int t = near(3);
        int what = near(2);
        int part = near(1);
        int n = near(6);
        int gain = near(99);
        int loss = near(99);
        String by = s + ", " + w;
        switch (random.nextInt(14)) {
            case 0: return due("odds(" + by + ", " + part + ")", heard.odds(s, w, part), model.odds(s, w, part));
            case 1: return due("sure(" + by + ")", heard.sure(s, w), model.sure(s, w));
            case 2: return due("tell(" + t + ", " + w + ")", heard.tell(t, w), model.tell(t, w));
            case 3: return due("which(" + s + ")", heard.which(s), model.which(s));
            case 4: case 5: return due("worth(" + by + ", " + gain + ", " + loss + ", " + part + ")",
                    heard.worth(s, w, gain, loss, part), model.worth(s, w, gain, loss, part));
            case 6: return due("sit(" + by + ")", heard.sit(s, w), model.sit(s, w));
            case 7: return due("catches(" + by + ", " + n + ")", heard.catches(s, w, n), model.catches(s, w, n));
            case 8: return due("all(" + what + ")", heard.all(what), model.all(what));
            case 9: return random.nextInt(4) > 0 || due("begin(" + by + ", " + what + ")",
                    heard.begin(s, w, what), model.begin(s, w, what));
            case 10: case 11: return due("self(" + by + ", " + what + ", " + part + ")",
                    heard.self(s, w, what, part), model.self(s, w, what, part));
            case 12: return back(t, n);
            default: return due("looked()", heard.looked(), model.looked());
        }
    }

    private boolean back(int thing, int m) {
        int state = near(3);
        return due("back(" + thing + ", " + state + ", " + m + ")",
                heard.back(thing, state, m), model.back(thing, state, m));
    }
}
