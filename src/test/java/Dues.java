/** What tests of single answers share: what is due, and runs of calls said in one. */
abstract class Dues {
    static final long NO = Long.MIN_VALUE;
    static final int NONE = -1, BAD = -2, STATE = -3, FULL = -4;
    static final int MIN = Integer.MIN_VALUE, MAX = Integer.MAX_VALUE;

    private static int wrong;
    private static int asked;
    private static String about = "";

    /** What the answers that follow are asked for: told with each that is not as due. */
    static void about(String what) {
        about = what;
    }

    static void due(String call, long got, long want) {
        asked++;
        if (got != want) {
            wrong++;
            System.out.println(about + ": " + call + " answered " + got + ", due is " + want);
        }
    }

    static void end() {
        System.out.println(asked + " answers looked at, " + wrong + " not as due");
        if (wrong != 0) {
            System.exit(1);
        }
    }

    static void feed(TrueHeard x, String text) {
        for (int i = 0; i < text.length(); i++) {
            x.feed(text.charAt(i));
        }
    }

    static int coast(TrueHeard x, String text) {
        feed(x, text);
        return x.coast();
    }

    static int saying(TrueHeard x, String text) {
        feed(x, text);
        return x.saying();
    }

    static void hours(TrueHeard x, int n) {
        for (int i = 0; i < n; i++) {
            x.hour(0);
        }
    }

    static void things(TrueHeard x, int... states) {
        for (int state : states) {
            x.thing(state);
        }
    }

    static void odds(TrueHeard x, int saying, int way, long above, long below) {
        due("odds(" + saying + ", " + way + ", 0)", x.odds(saying, way, 0), above);
        due("odds(" + saying + ", " + way + ", 1)", x.odds(saying, way, 1), below);
    }

    static void self(TrueHeard x, int what, long above, long below) {
        due("self(0, 0, " + what + ", 0)", x.self(0, 0, what, 0), above);
        due("self(0, 0, " + what + ", 1)", x.self(0, 0, what, 1), below);
    }

    static void begins(TrueHeard x, int saying, int many, int least) {
        due("begin(" + saying + ", 0, 0)", x.begin(saying, 0, 0), many);
        due("begin(" + saying + ", 0, 1)", x.begin(saying, 0, 1), least);
    }

    static void trace(TrueHeard x, int... bodies) {
        due("count(6)", x.count(6), bodies.length);
        for (int i = 0; i < bodies.length; i++) {
            due("trace(" + i + ")", x.trace(i), bodies[i]);
        }
        due("trace past its end", x.trace(bodies.length), NONE);
    }

    static void counts(TrueHeard x, int... counts) {
        for (int i = 0; i < counts.length; i++) {
            due("count(" + i + ")", x.count(i), counts[i]);
        }
    }

    /** The ROW is told anew, then looked at. */
    static void rows(TrueHeard x, int want, int... states) {
        x.row(-1);
        for (int state : states) {
            x.row(state);
        }
        due("looked()", x.looked(), want);
    }
}
