import java.math.BigInteger;
import java.util.ArrayList;
import java.util.List;

/**
 * The document done in the slowest and plainest way, sharing nothing with TrueHeard: texts are read sign by
 * sign and said again each time, the futures of all THINGS are walked one by one, fractions are BigIntegers.
 */
final class PlainModel {
    static final long NO = Long.MIN_VALUE;
    private static final int[] ABOVE = {-1, 0, 0, 0, 1, 2, 3};

    private static final class Way {
        int kind, v, hours, cost, sits;
    }

    private static final class All {
        String tape = "";
        List<String> coasts = new ArrayList<>();
        List<String> sayings = new ArrayList<>();
        List<Integer> things = new ArrayList<>();
        List<Way> ways = new ArrayList<>();
        List<Integer> row = new ArrayList<>();
        int hour;
        int heedThing = -1;
        int heedState;

        All copy() {
            All a = new All();
            a.tape = tape;
            a.coasts.addAll(coasts);
            a.sayings.addAll(sayings);
            a.things.addAll(things);
            a.row.addAll(row);
            a.hour = hour;
            a.heedThing = heedThing;
            a.heedState = heedState;
            for (Way w : ways) {
                Way c = new Way();
                c.kind = w.kind;
                c.v = w.v;
                c.hours = w.hours;
                c.cost = w.cost;
                c.sits = w.sits;
                a.ways.add(c);
            }
            return a;
        }
    }

    private All a = new All();
    private All image;
    private final List<Integer> bodies = new ArrayList<>();

    // ---- texts

    /** Walks a text with a state and a stack of what is open; the place of the first sign that can't be, or -1. */
    static int fault(String text, boolean coast) {
        String names = coast ? "tshk" : "abcdh";
        String state = coast ? "word" : "F";
        String word = "";
        String open = "";
        int clauses = 1;
        for (int i = 0; i < text.length(); i++) {
            char c = text.charAt(i);
            switch (state) {
                case "word":
                    if (word.equals("turn") || word.equals("drift") || word.equals("dear")) {
                        if (c != ' ') {
                            return i;
                        }
                        state = "n";
                    } else {
                        word += c;
                        if (!"turn".startsWith(word) && !"drift".startsWith(word) && !"dear".startsWith(word)) {
                            return i;
                        }
                    }
                    break;
                case "n":
                    if (c < '0' || c > '9') {
                        return i;
                    }
                    state = c == '0' ? "n end" : "n more";
                    break;
                case "n more":
                    if (c >= '0' && c <= '9') {
                        state = "n end";
                        break;
                    }
                    if (c != ' ') {
                        return i;
                    }
                    state = "F";
                    break;
                case "n end":
                    if (c != ' ') {
                        return i;
                    }
                    state = "F";
                    break;
                case "F":
                    if (c == '!' || c == '(') {
                        if (open.length() == 5) {
                            return i;
                        }
                        open += c;
                    } else if (names.indexOf(c) >= 0) {
                        state = "how";
                    } else {
                        return i;
                    }
                    break;
                case "how":
                    if (c != '<' && c != '=' && c != '>') {
                        return i;
                    }
                    state = "number";
                    break;
                case "number":
                    if (c < '0' || c > '9') {
                        return i;
                    }
                    state = c == '0' ? "end" : "more";
                    break;
                default:
                    if (state.equals("more") && c >= '0' && c <= '9') {
                        state = "end";
                        break;
                    }
                    while (open.endsWith("!")) {
                        open = open.substring(0, open.length() - 1);
                    }
                    if (c == '&' || c == '|') {
                        state = "F";
                    } else if (c == ')' && open.endsWith("(")) {
                        open = open.substring(0, open.length() - 1);
                        state = "end";
                    } else if (c == ';' && coast && open.isEmpty() && clauses < 10) {
                        clauses++;
                        state = "word";
                        word = "";
                    } else {
                        return i;
                    }
                    break;
            }
        }
        return (state.equals("end") || state.equals("more")) && open.indexOf("(") < 0 ? -1 : text.length();
    }

    /** Splits at a sign outside ( and ). */
    private static List<String> split(String text, char at) {
        List<String> parts = new ArrayList<>();
        int open = 0;
        int from = 0;
        for (int i = 0; i < text.length(); i++) {
            char c = text.charAt(i);
            open += c == '(' ? 1 : c == ')' ? -1 : 0;
            if (c == at && open == 0) {
                parts.add(text.substring(from, i));
                from = i + 1;
            }
        }
        parts.add(text.substring(from));
        return parts;
    }

    private static boolean isSo(String e, String names, int... values) {
        for (String t : split(e, '|')) {
            boolean so = true;
            for (String f : split(t, '&')) {
                so &= isSoF(f, names, values);
            }
            if (so) {
                return true;
            }
        }
        return false;
    }

    private static boolean isSoF(String f, String names, int... values) {
        if (f.charAt(0) == '!') {
            return !isSoF(f.substring(1), names, values);
        }
        if (f.charAt(0) == '(') {
            return isSo(f.substring(1, f.length() - 1), names, values);
        }
        int value = values[names.indexOf(f.charAt(0))];
        int number = Integer.parseInt(f.substring(2));
        return f.charAt(1) == '<' ? value < number : f.charAt(1) == '=' ? value == number : value > number;
    }

    private int together(String word, int t, int s, int hour, int k) {
        int n = 0;
        if (!a.coasts.isEmpty()) {
            for (String clause : a.coasts.get(a.coasts.size() - 1).split(";")) {
                String[] parts = clause.split(" ");
                if (parts[0].equals(word) && isSo(parts[2], "tshk", t, s, hour % 12, k)) {
                    n += Integer.parseInt(parts[1]);
                }
            }
        }
        return n;
    }

    private int turns(int thing, int state, int hour) {
        return together("turn", thing, state, hour, 9);
    }

    private int drift(int thing, int state, int hour) {
        return Math.min(2, together("drift", thing, state, hour, 9));
    }

    private int takes(Way w, int hour) {
        int fire = hour % 12 >= 6 ? 1 : w.hours;
        int boat = hour % 2 == 1 ? w.hours + w.v % 3 : w.hours;
        switch (w.kind) {
            case 0: return w.hours;
            case 1: case 4: return w.hours / 2 + w.hours % 2;
            case 2: return boat;
            case 5: return boat == 0 ? 0 : boat - 1;
            case 3: return fire;
            default: return fire + w.sits;
        }
    }

    private int costs(Way w) {
        return w.cost + together("dear", 9, 9, a.hour, w.kind) + (w.kind == 4 ? w.v : 0);
    }

    private boolean sayingIsSo(String saying, int[] states, int hour) {
        int[] values = {9, 9, 9, 9, hour % 12};
        System.arraycopy(states, 0, values, 0, states.length);
        return isSo(saying, "abcdh", values);
    }

    // ---- futures

    /** What counts a row of STATES at an HOUR; futures come with how likely they are, in parts of 2 to the power of bits. */
    private interface Counter {
        void count(int[] states, BigInteger parts);
    }

    /** Each THING by itself: the row of chances of one after the other's. */
    private void futures(int[] start, int hours, Counter counter) {
        BigInteger[][] chances = new BigInteger[start.length][];
        for (int t = 0; t < start.length; t++) {
            chances[t] = new BigInteger[] {BigInteger.ZERO, BigInteger.ZERO, BigInteger.ZERO, BigInteger.ZERO};
            walk(t, start[t], a.hour, hours, BigInteger.ONE.shiftLeft(hours), chances[t]);
        }
        fill(new int[start.length], 0, BigInteger.ONE, chances, counter);
    }

    private void walk(int t, int state, int hour, int hours, BigInteger parts, BigInteger[] chances) {
        if (parts.signum() == 0) {
            return;
        }
        if (hours == 0) {
            chances[state] = chances[state].add(parts);
            return;
        }
        int to = state + turns(t, state, hour);
        BigInteger half = parts.shiftRight(1);
        BigInteger drift = BigInteger.valueOf(drift(t, state, hour));
        walk(t, to % 4, hour + 1, hours - 1, half.multiply(BigInteger.TWO.subtract(drift)), chances);
        walk(t, (to + 1) % 4, hour + 1, hours - 1, half.multiply(drift), chances);
    }

    private void fill(int[] states, int t, BigInteger parts, BigInteger[][] chances, Counter counter) {
        if (parts.signum() == 0) {
            return;
        }
        if (t == states.length) {
            counter.count(states, parts);
            return;
        }
        for (int s = 0; s < 4; s++) {
            states[t] = s;
            fill(states, t + 1, parts.multiply(chances[t][s]), chances, counter);
        }
    }

    private int[] start() {
        int[] states = new int[a.things.size()];
        for (int i = 0; i < states.length; i++) {
            states[i] = a.things.get(i);
        }
        return states;
    }

    /** Above and below the line, in lowest terms. */
    private BigInteger[] chanceOf(String saying, int[] start, int hours, int what) {
        BigInteger[] above = {BigInteger.ZERO};
        futures(start, hours, (states, parts) -> {
            boolean so = sayingIsSo(saying, states, a.hour + hours);
            int[] then = states.clone();
            if (a.heedThing >= 0) {
                then[a.heedThing] = a.heedState;
            }
            boolean soThen = sayingIsSo(saying, then, a.hour + hours);
            if (what == 0 ? so : what == 1 ? soThen : so && soThen) {
                above[0] = above[0].add(parts);
            }
        });
        return lowest(above[0], BigInteger.ONE.shiftLeft(hours * start.length));
    }

    private static BigInteger[] lowest(BigInteger above, BigInteger below) {
        BigInteger g = above.gcd(below);
        return new BigInteger[] {above.divide(g), below.divide(g)};
    }

    private boolean surely(String saying, int[] start, int hours) {
        BigInteger[] chance = chanceOf(saying, start, hours, 0);
        return chance[0].equals(chance[1]);
    }

    private boolean noSaying(int i) {
        return i < 0 || i >= a.sayings.size();
    }

    private boolean noWay(int i) {
        return i < 0 || i >= a.ways.size();
    }

    private boolean noThing(int i) {
        return i < 0 || i >= a.things.size();
    }

    // ---- the calls

    int feed(int sign) {
        if (sign < 0 || sign > 127) {
            return -2;
        }
        if (a.tape.length() == 100) {
            return -4;
        }
        a.tape += (char) sign;
        return a.tape.length();
    }

    int coast() {
        return read(a.coasts, true);
    }

    int saying() {
        return read(a.sayings, false);
    }

    private int read(List<String> to, boolean coast) {
        if (to.size() == 5) {
            return -4;
        }
        String text = a.tape;
        a.tape = "";
        int fault = fault(text, coast);
        if (fault >= 0) {
            return -10 - fault;
        }
        to.add(text);
        return to.size() - 1;
    }

    int thing(int state) {
        if (state < 0 || state > 3) {
            return -2;
        }
        if (a.things.size() == 4) {
            return -4;
        }
        a.things.add(state);
        return a.things.size() - 1;
    }

    int put(int thing, int n) {
        if (noThing(thing)) {
            return -1;
        }
        return n < 0 || n > 3 ? -2 : a.things.set(thing, n);
    }

    int of(int thing, int what) {
        if (noThing(thing) || what < 0 || what > 2) {
            return -1;
        }
        int state = a.things.get(thing);
        return what == 0 ? state : what == 1 ? turns(thing, state, a.hour) : drift(thing, state, a.hour);
    }

    int way(int kind, int v, int hours, int cost) {
        if (kind < 0 || kind > 6) {
            return -1;
        }
        if (v < 0 || v > 9 || hours < 0 || hours > 6 || cost < 0 || cost > 99) {
            return -2;
        }
        if (a.ways.size() == 5) {
            return -4;
        }
        Way w = new Way();
        w.kind = kind;
        w.v = v;
        w.hours = hours;
        w.cost = cost;
        a.ways.add(w);
        return a.ways.size() - 1;
    }

    int at(int way, int what) {
        if (noWay(way) || what < 0 || what > 6) {
            return -1;
        }
        Way w = a.ways.get(way);
        return new int[] {w.kind, w.v, w.hours, w.cost, takes(w, a.hour), costs(w), w.sits}[what];
    }

    int bribe(int way, int n) {
        if (noWay(way)) {
            return -1;
        }
        if (n < 0 || n > 6) {
            return -2;
        }
        Way w = a.ways.get(way);
        if (w.kind != 6) {
            return -3;
        }
        int before = w.sits;
        w.sits = n;
        return before;
    }

    int now() {
        return a.hour;
    }

    int hour(int bits) {
        if (bits < 0 || bits > 15) {
            return -2;
        }
        if (a.hour == 999) {
            return -3;
        }
        for (int t = 0; t < a.things.size(); t++) {
            int s = a.things.get(t);
            int drift = drift(t, s, a.hour);
            int more = drift == 0 ? 0 : drift == 2 ? 1 : bits / (1 << t) % 2;
            a.things.set(t, (s + turns(t, s, a.hour) + more) % 4);
        }
        return ++a.hour;
    }

    long odds(int saying, int way, int part) {
        if (noSaying(saying) || noWay(way) || part < 0 || part > 1) {
            return NO;
        }
        return chanceOf(a.sayings.get(saying), start(), takes(a.ways.get(way), a.hour), 0)[part].longValueExact();
    }

    int sure(int saying, int way) {
        if (noSaying(saying) || noWay(way)) {
            return -1;
        }
        BigInteger[] chance = chanceOf(a.sayings.get(saying), start(), takes(a.ways.get(way), a.hour), 0);
        return chance[0].signum() == 0 ? 0 : chance[0].equals(chance[1]) ? 2 : 1;
    }

    int tell(int thing, int way) {
        if (noThing(thing) || noWay(way)) {
            return -1;
        }
        return may(thing, a.things.get(thing), a.hour, takes(a.ways.get(way), a.hour));
    }

    private int may(int thing, int state, int hour, int hours) {
        if (hours == 0) {
            return 1 << state;
        }
        int to = state + turns(thing, state, hour);
        int drift = drift(thing, state, hour);
        int bits = drift < 2 ? may(thing, to % 4, hour + 1, hours - 1) : 0;
        return drift > 0 ? bits | may(thing, (to + 1) % 4, hour + 1, hours - 1) : bits;
    }

    int which(int saying) {
        if (noSaying(saying)) {
            return -1;
        }
        int best = -5;
        BigInteger[] most = null;
        for (int i = 0; i < a.ways.size(); i++) {
            Way w = a.ways.get(i);
            BigInteger[] chance = chanceOf(a.sayings.get(saying), start(), takes(w, a.hour), 0);
            int more = most == null ? 1 : chance[0].multiply(most[1]).compareTo(most[0].multiply(chance[1]));
            if (more > 0 || more == 0 && costs(w) < costs(a.ways.get(best))) {
                best = i;
                most = chance;
            }
        }
        return best;
    }

    long worth(int saying, int way, int w, int f, int part) {
        if (noSaying(saying) || noWay(way) || w < 0 || w > 99 || f < 0 || f > 99 || part < 0 || part > 1) {
            return NO;
        }
        Way by = a.ways.get(way);
        BigInteger[] chance = chanceOf(a.sayings.get(saying), start(), takes(by, a.hour), 0);
        BigInteger above = chance[0].multiply(BigInteger.valueOf(w))
                .subtract(chance[1].subtract(chance[0]).multiply(BigInteger.valueOf(f)))
                .subtract(chance[1].multiply(BigInteger.valueOf(costs(by))));
        return lowest(above, chance[1])[part].longValueExact();
    }

    int sit(int saying, int way) {
        if (noSaying(saying) || noWay(way)) {
            return -1;
        }
        for (int n = 0; n <= 6; n++) {
            if (surely(a.sayings.get(saying), start(), takes(a.ways.get(way), a.hour) + n)) {
                return n;
            }
        }
        return -5;
    }

    int catches(int one, int other, int n) {
        if (noWay(one) || noWay(other)) {
            return -1;
        }
        if (n < 0 || n > 6) {
            return -2;
        }
        return a.hour + n + takes(a.ways.get(other), a.hour + n) <= a.hour + takes(a.ways.get(one), a.hour) ? 1 : 0;
    }

    int all(int what) {
        if (what != 0 && what != 1) {
            return -1;
        }
        int hours = 0;
        int costs = 0;
        for (Way w : a.ways) {
            hours = Math.max(hours, takes(w, a.hour));
            costs += costs(w);
        }
        return what == 0 ? hours : costs;
    }

    int begin(int saying, int way, int what) {
        if (noSaying(saying) || noWay(way) || what != 0 && what != 1) {
            return -1;
        }
        int many = 0;
        int least = -5;
        int[] states = new int[a.things.size()];
        for (int row = 0; row < Math.pow(4, states.length); row++) {
            for (int t = 0, rest = row; t < states.length; t++, rest /= 4) {
                states[t] = rest % 4;
            }
            if (surely(a.sayings.get(saying), states, takes(a.ways.get(way), a.hour))) {
                least = many == 0 ? row : least;
                many++;
            }
        }
        return what == 0 ? many : least;
    }

    int heed(int thing, int state) {
        if (thing != -1) {
            if (noThing(thing)) {
                return -1;
            }
            if (state < 0 || state > 3) {
                return -2;
            }
        }
        a.heedThing = thing;
        a.heedState = state;
        return 1;
    }

    long self(int saying, int way, int what, int part) {
        if (noSaying(saying) || noWay(way) || what < 0 || what > 2 || part < 0 || part > 1) {
            return NO;
        }
        return chanceOf(a.sayings.get(saying), start(), takes(a.ways.get(way), a.hour), what)[part].longValueExact();
    }

    int back(int thing, int state, int m) {
        if (noThing(thing)) {
            return -1;
        }
        if (state < 0 || state > 3 || m < 0 || m > 6) {
            return -2;
        }
        int bits = 0;
        for (int s = 0; s < 4; s++) {
            bits += may(thing, s, a.hour, m) / (1 << state) % 2 << s;
        }
        return bits;
    }

    int row(int state) {
        if (state == -1) {
            a.row.clear();
            return 0;
        }
        if (state < 0 || state > 3) {
            return -2;
        }
        if (a.row.size() == 12) {
            return -4;
        }
        a.row.add(state);
        return a.row.size();
    }

    int looked() {
        if (a.things.isEmpty()) {
            return -3;
        }
        for (int i = 0; i < a.row.size(); i++) {
            int bits = i == 0 ? 1 << a.things.get(0) : may(0, a.row.get(i - 1), a.hour + i - 1, 1);
            if (bits / (1 << a.row.get(i)) % 2 == 0) {
                return i;
            }
        }
        return -5;
    }

    int act(int way, int act, int x) {
        bodies.clear();
        if (noWay(way) || act < 0 || act > 2) {
            return 0;
        }
        return run(a.ways.get(way), way, a.ways.get(way).kind, act, x);
    }

    /** The body for an act from a KIND on upward: a sheet of who has which. */
    private int run(Way w, int i, int from, int act, int x) {
        int kind = from;
        int[][] sheet = {{1, 2, 3}, {11, 0, 0}, {0, 21, 0}, {0, 0, 31}, {0, 0, 41}, {51, 0, 0}, {0, 61, 0}};
        while (sheet[kind][act] == 0) {
            kind = ABOVE[kind];
        }
        bodies.add(sheet[kind][act]);
        int up = ABOVE[kind];
        switch (sheet[kind][act]) {
            case 1: return x + i;
            case 2: return run(w, i, w.kind, 0, x) - w.v;
            case 3: return run(w, i, w.kind, 1, x) * 2;
            case 11: return run(w, i, up, 0, x * 3);
            case 21: return -run(w, i, up, 1, x);
            case 31: return run(w, i, up, 2, x) ^ 7;
            case 41: {
                int told = run(w, i, up, 2, x - 1);
                return told + run(w, i, w.kind, 0, 2);
            }
            case 51: return run(w, i, up, 0, x) ^ i;
            default: return run(w, i, up, 1, x) + w.v;
        }
    }

    int trace(int i) {
        return i < 0 || i >= Math.min(20, bodies.size()) ? -1 : bodies.get(i);
    }

    int as(int way, int k) {
        if (noWay(way) || k < 0 || k > 6) {
            return -1;
        }
        for (int kind = a.ways.get(way).kind; kind >= 0; kind = ABOVE[kind]) {
            if (kind == k) {
                return a.ways.get(way).v;
            }
        }
        return -6;
    }

    int image() {
        image = a.copy();
        return a.things.size();
    }

    int undo() {
        if (image == null) {
            return -3;
        }
        a = image.copy();
        return a.things.size();
    }

    int count(int what) {
        if (what < 0 || what > 6) {
            return -1;
        }
        return new int[] {a.things.size(), a.ways.size(), a.sayings.size(), a.coasts.size(), a.row.size(),
            a.tape.length(), bodies.size()}[what];
    }
}
