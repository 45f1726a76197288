/** One test for each sentence of the document's Terms that names a boundary case, told by its words. */
public final class BoundsTest extends Dues {
    private static final int RUNNER = 0, BELL = 1, BOAT = 2, FIRE = 3, TOLLED = 4, TOWED = 5, BRIBED = 6;

    private static TrueHeard with(String coast, int... states) {
        TrueHeard x = new TrueHeard();
        if (!coast.isEmpty()) {
            due("coast \"" + coast + "\"", coast(x, coast), 0);
        }
        things(x, states);
        return x;
    }

    private static String times(int n, String text) {
        return text.repeat(n);
    }

    // ---- 1: things

    private static void thingsAtMost() {
        about("THINGS are numbered from 0 on, 4 at most");
        TrueHeard x = new TrueHeard();
        for (int i = 0; i < 4; i++) {
            due("of(" + i + ", 0) ahead of it", x.of(i, 0), NONE);
            due("thing(0)", x.thing(0), i);
            due("of(" + i + ", 0)", x.of(i, 0), 0);
            due("count(0)", x.count(0), i + 1);
        }
        due("a fifth", x.thing(0), FULL);
        due("count(0)", x.count(0), 4);
        due("of(4, 0)", x.of(4, 0), NONE);
    }

    private static void states() {
        about("each in a STATE (0 .. 3)");
        for (int state = 0; state <= 3; state++) {
            TrueHeard x = with("", state, 3 - state);
            due("of(0, 0)", x.of(0, 0), state);
            due("of(1, 0)", x.of(1, 0), 3 - state);
            due("put(0, " + (3 - state) + ")", x.put(0, 3 - state), state);
            due("of(0, 0)", x.of(0, 0), 3 - state);
            due("of(1, 0)", x.of(1, 0), 3 - state);
        }
        TrueHeard x = with("", 1);
        for (int state : new int[] {MIN, -1, 4, MAX}) {
            due("thing(" + state + ")", x.thing(state), BAD);
            due("put(0, " + state + ")", x.put(0, state), BAD);
        }
        due("count(0)", x.count(0), 1);
        due("of(0, 0)", x.of(0, 0), 1);
    }

    private static void hourAtFirst() {
        about("HOUR: 0 at first");
        TrueHeard x = new TrueHeard();
        due("now()", x.now(), 0);
        x.way(RUNNER, 0, 0, 0);
        saying(x, "h=0");
        odds(x, 0, 0, 1, 1);
    }

    // ---- 1: ways

    private static void waysAtMost() {
        about("WAYS are numbered from 0 on, 5 at most");
        TrueHeard x = new TrueHeard();
        for (int i = 0; i < 5; i++) {
            due("at(" + i + ", 0) ahead of it", x.at(i, 0), NONE);
            due("way", x.way(i, i, i, i), i);
            due("its v", x.at(i, 1), i);
            due("count(1)", x.count(1), i + 1);
        }
        due("a sixth", x.way(0, 0, 0, 0), FULL);
        due("count(1)", x.count(1), 5);
        due("at(5, 0)", x.at(5, 0), NONE);
    }

    private static void kinds() {
        about("each of a KIND: 0 RUNNER .. 6 BRIBED");
        for (int kind = 0; kind <= 6; kind++) {
            TrueHeard x = new TrueHeard();
            due("way", x.way(kind, 0, 0, 0), 0);
            due("its KIND", x.at(0, 0), kind);
        }
        TrueHeard x = new TrueHeard();
        for (int kind : new int[] {MIN, -1, 7, MAX}) {
            due("KIND " + kind, x.way(kind, 0, 0, 0), NONE);
        }
        due("count(1)", x.count(1), 0);
    }

    private static void numbersOfWays() {
        about("a number v (0 .. 9), HOURS (0 .. 6), a COST (0 .. 99)");
        TrueHeard x = new TrueHeard();
        for (int bad : new int[] {MIN, -1, MAX}) {
            due("v " + bad, x.way(0, bad, 0, 0), BAD);
            due("HOURS " + bad, x.way(0, 0, bad, 0), BAD);
            due("COST " + bad, x.way(0, 0, 0, bad), BAD);
        }
        due("v 10", x.way(0, 10, 6, 99), BAD);
        due("HOURS 7", x.way(0, 9, 7, 99), BAD);
        due("COST 100", x.way(0, 9, 6, 100), BAD);
        due("count(1)", x.count(1), 0);
        due("the least", x.way(0, 0, 0, 0), 0);
        due("the most", x.way(0, 9, 6, 99), 1);
        for (int what = 1; what <= 3; what++) {
            due("at(0, " + what + ")", x.at(0, what), 0);
            due("at(1, " + what + ")", x.at(1, what), new int[] {9, 6, 99}[what - 1]);
        }
    }

    private static void sits() {
        about("SITS (0 .. 6; 0 at first)");
        for (int kind = 0; kind <= 6; kind++) {
            TrueHeard x = new TrueHeard();
            x.way(kind, 1, 2, 3);
            due("SITS of a " + kind, x.at(0, 6), 0);
            due("bribe(0, 6) of a " + kind, x.bribe(0, 6), kind == BRIBED ? 0 : STATE);
            due("SITS of a " + kind, x.at(0, 6), kind == BRIBED ? 6 : 0);
        }
        TrueHeard x = new TrueHeard();
        x.way(BRIBED, 0, 0, 0);
        x.bribe(0, 6);
        for (int n : new int[] {MIN, -1, 7, MAX}) {
            due("bribe(0, " + n + ")", x.bribe(0, n), BAD);
        }
        due("SITS", x.at(0, 6), 6);
        due("bribe(0, 0)", x.bribe(0, 0), 6);
        due("SITS", x.at(0, 6), 0);
    }

    // ---- 1: the TAPE, coasts

    private static void tapeAtMost() {
        about("THE TAPE (bytes, 100 at most)");
        TrueHeard x = with("", 0, 1);
        String full = times(8, "turn 1 t=0;") + "turn 10 t<10";
        feed(x, full);
        due("count(5)", x.count(5), 100);
        due("a 101st", x.feed(';'), FULL);
        due("count(5)", x.count(5), 100);
        due("a COAST of 100 bytes", x.coast(), 0);
        due("count(5)", x.count(5), 0);
        due("its first CLAUSES", x.of(0, 1), 18);
        due("its last byte", x.of(1, 1), 10);
        due("a first one again", x.feed('a'), 1);
        feed(x, times(24, "=0|a") + "<10");
        due("count(5)", x.count(5), 100);
        due("a SAYING of 100 bytes", x.saying(), 0);
        x.way(RUNNER, 0, 0, 0);
        odds(x, 0, 0, 1, 1);
    }

    private static void tapeFullOfFaults() {
        about("FAULT of a full TAPE");
        String most = times(8, "turn 1 t=0;") + "turn 10 t<1";
        TrueHeard x = new TrueHeard();
        feed(x, most + "x");
        due("the last byte", x.coast(), -10 - 99);
        due("count(5)", x.count(5), 0);
        feed(x, times(9, "turn 1 t=0;") + "t");
        due("a tenth CLAUSE ends too early", x.coast(), -10 - 100);
        feed(x, times(9, "turn 1 t=0;") + ";");
        due("a tenth CLAUSE does not begin", x.coast(), -10 - 99);
        feed(x, times(25, "a=0|"));
        due("a SAYING ends too early", x.saying(), -10 - 100);
        feed(x, times(24, "a=0|") + "a=0x");
        due("a SAYING's last byte", x.saying(), -10 - 99);
        due("count(5)", x.count(5), 0);
        due("count(2)", x.count(2), 0);
        due("count(3)", x.count(3), 0);
    }

    private static void emptyTape() {
        about("FAULT: the size, if it ends too early");
        TrueHeard x = new TrueHeard();
        due("empty, coast()", x.coast(), -10);
        due("empty, saying()", x.saying(), -10);
        due("count(3)", x.count(3), 0);
        due("count(2)", x.count(2), 0);
        String coast = "turn 12 !(t=0)&s>34;drift 0 h<5|k=9;dear 9 !k>6";
        // The sizes at which it may end: behind ), behind each digit of the last number of an E.
        String may = " 14 18 19 31 35 47 ";
        for (int size = 1; size <= coast.length(); size++) {
            String text = coast.substring(0, size);
            due("\"" + text + "\"", coast(new TrueHeard(), text), may.contains(" " + size + " ") ? 0 : -10 - size);
        }
        for (String text : new String[] {"a", "a<", "!", "(", "(a=0", "a=0&", "a=0|", "!(h=11|b>2"}) {
            due("\"" + text + "\"", saying(x, text), -10 - text.length());
        }
    }

    private static void clausesAtMost() {
        about("CLAUSES, 10 at most, with ; between");
        for (int n = 1; n <= 9; n++) {
            TrueHeard x = with("turn 1 t=0" + times(n - 1, ";turn 1 t=0"), 0);
            due(n + " CLAUSES", x.of(0, 1), n);
        }
        TrueHeard x = new TrueHeard();
        due("; first", coast(x, ";turn 1 t=0"), -10);
        due("; last", coast(x, "turn 1 t=0;"), -21);
        due(";;", coast(x, "turn 1 t=0;;turn 1 t=0"), -21);
        due("| between", coast(x, "turn 1 t=0|turn 1 t=0"), -22);
    }

    private static void blanks() {
        about("one blank ahead of each part behind the word");
        TrueHeard x = new TrueHeard();
        due("none, n", coast(x, "turn1 t=0"), -14);
        due("none, E", coast(x, "turn 1t=0"), -16);
        due("none, E behind two digits", coast(x, "turn 12t=0"), -17);
        due("two, n", coast(x, "drift  1 t=0"), -16);
        due("two, E", coast(x, "dear 1  t=0"), -17);
        due("first", coast(x, " turn 1 t=0"), -10);
        due("last", coast(x, "turn 1 t=0 "), -20);
        due("behind ;", coast(x, "turn 1 t=0; turn 1 t=0"), -21);
        due("ahead of ;", coast(x, "turn 1 t=0 ;turn 1 t=0"), -20);
        due("within E", coast(x, "turn 1 t=0 &t=0"), -20);
    }

    private static void digits() {
        about("n 1 or 2 digits, no 0 ahead of another");
        for (int n : new int[] {0, 1, 9, 10, 19, 90, 99}) {
            due("n " + n, with("turn " + n + " t=0", 0).of(0, 1), n);
        }
        TrueHeard x = new TrueHeard();
        due("00", coast(x, "turn 00 t=0"), -16);
        due("01", coast(x, "turn 01 t=0"), -16);
        due("100", coast(x, "turn 100 t=0"), -17);
        due("no digit", coast(x, "turn  t=0"), -15);
        due("-1", coast(x, "turn -1 t=0"), -15);
        about("a TEST's number likewise");
        due("00", coast(x, "turn 1 t=00"), -20);
        due("09", coast(x, "turn 1 t=09"), -20);
        due("100", coast(x, "turn 1 t=100"), -21);
        due("no digit", coast(x, "turn 1 t=)"), -19);
        due("00 of a SAYING", saying(x, "a=00"), -13);
        due("100 of a SAYING", saying(x, "a=100"), -14);
        for (int n : new int[] {0, 1, 9, 10, 99}) {
            TrueHeard y = with("turn 1 s<" + n + ";turn 2 s=" + n + ";turn 4 s>" + n, 1);
            due("s to " + n, y.of(0, 1), n > 1 ? 1 : n == 1 ? 2 : 4);
        }
    }

    private static void tests() {
        about("one of < = >, a number");
        for (int value = 0; value <= 3; value++) {
            for (int n = 0; n <= 4; n++) {
                int due = value < n ? 1 : value == n ? 2 : 4;
                String by = value + " to " + n;
                TrueHeard x = with("turn 1 s<" + n + ";turn 2 s=" + n + ";turn 4 s>" + n, value);
                due("s " + by, x.of(0, 1), due);
                x = with("turn 1 t<" + n + ";turn 2 t=" + n + ";turn 4 t>" + n, 0, 0, 0, 0);
                due("t " + by, x.of(value, 1), due);
                x = with("turn 1 h<" + n + ";turn 2 h=" + n + ";turn 4 h>" + n, 0);
                hours(x, value);
                due("h " + by, x.of(0, 1), due);
                x = with("dear 1 k<" + n + ";dear 2 k=" + n + ";dear 4 k>" + n);
                x.way(value, 0, 0, 0);
                due("k " + by, x.at(0, 5), due);
            }
        }
    }

    private static void testsOfThings() {
        about("of a THING t its number, s its STATE, h HOUR modulo 12, k 9");
        TrueHeard x = with("turn 1 k=9;turn 2 k<9;turn 4 k>9;turn 10 h=11;turn 20 h=0;turn 40 h>11", 0);
        hours(x, 11);
        due("at HOUR 11", x.of(0, 1), 11);
        x.hour(0);
        due("at HOUR 12", x.of(0, 1), 21);
        hours(x, 11);
        due("at HOUR 23", x.of(0, 1), 11);
        x.hour(0);
        due("at HOUR 24", x.of(0, 1), 21);
    }

    private static void testsOfWays() {
        about("of a WAY (dear) t, s 9, h HOUR modulo 12, k its KIND");
        for (int kind = 0; kind <= 6; kind++) {
            TrueHeard x = with("dear 1 t=9&s=9;dear 2 t<9|s<9|t>9|s>9;dear 4 k=" + kind + ";dear 10 h=11;dear 20 h=0");
            x.way(kind, 0, 0, 0);
            due("at HOUR 0", x.at(0, 5), 25);
            hours(x, 11);
            due("at HOUR 11", x.at(0, 5), 15);
            x.hour(0);
            due("at HOUR 12", x.at(0, 5), 25);
        }
    }

    private static void open() {
        about("At most 5 of ! and ( are open (a ( till its ) , a ! till its F ends)");
        String[] stand = {
            "(((((a=0)))))", "!!!!!a=0", "!(!(!a=0))", "(((((a=0)))))&(((((a=0)))))", "!!!!!a=0|!!!!!a=0",
            "!!!!(a=0)&!!!!!a=0", "((((!a=0&!a=0|!a=0))))&!!!!!a=0", "(((!!a=0&(!a=0|!a=0))))", "!(a=0)&(((((a=0)))))",
        };
        for (String text : stand) {
            due(text, saying(new TrueHeard(), text), 0);
            due("turn 1 " + text, coast(new TrueHeard(), "turn 1 " + text.replace('a', 't')), 0);
        }
        String[] faults = {
            "(((((( 5", "!!!!!! 5", "!(!(!( 5", "(((((!a=0 5", "!!!!!(a=0 5", "!!!!(!a=0 5", "!!!!(a=0&!a=0 9",
            "((((!a=0&(((a=0 10", "!!!!!a=0|!!!!!! 14", "(((((a=0)))))) 13", "!!((a=0)&!(! 11",
        };
        for (String fault : faults) {
            String text = fault.substring(0, fault.indexOf(' '));
            int place = Integer.parseInt(fault.substring(fault.indexOf(' ') + 1));
            due(text, saying(new TrueHeard(), text), -10 - place);
            due("turn 1 " + text, coast(new TrueHeard(), "turn 1 " + text.replace('a', 't')), -17 - place);
        }
    }

    private static void faults() {
        about("FAULT: the place of the first byte with which no COAST can go on");
        TrueHeard x = new TrueHeard();
        String[] faults = {
            "x 0", "Turn 0", "tern 1", "trun 1", "tu-rn 2", "turm 3", "dr 2", "deer 2", "dread 2", "drifT 4", "driftx 5",
            "dearx 4", "turn_x_t 5", "turn_1_x 7", "turn_1_a=1 7", "turn_1_! 8", "turn_1_!& 8", "turn_1_() 8",
            "turn_1_t! 8", "turn_1_t<= 9", "turn_1_t=- 9", "turn_1_t=1! 10", "turn_1_t=1( 10", "turn_1_t=1t 10",
            "turn_1_t=1&| 11", "turn_1_t=1|& 11", "turn_1_t=1|; 11", "turn_1_(t=1; 11", "turn_1_(t=1)) 12",
            "turn_1_(t=1)( 12", "turn_1_t=1;turn_1_t=x 20", "turn_1_t=1;x 11", "turn_1_h=11h 11", "dear_9_b=0 7",
        };
        for (String fault : faults) {
            String text = fault.substring(0, fault.indexOf(' ')).replace('_', ' ');
            int place = Integer.parseInt(fault.substring(fault.indexOf(' ') + 1));
            due(text, coast(x, text), -10 - place);
            due("count(5)", x.count(5), 0);
        }
        due("count(3)", x.count(3), 0);
        due("a COAST behind them", coast(x, "turn 1 t=0"), 0);
    }

    private static void coastsAtMost() {
        about("COASTS are numbered from 0 on, 5 at most");
        TrueHeard x = with("", 0);
        for (int i = 0; i < 5; i++) {
            due("count(3)", x.count(3), i);
            due("coast()", coast(x, "turn " + (9 - i) + " t=0"), i);
        }
        feed(x, "turn 1 t=0");
        due("a sixth", x.coast(), FULL);
        due("count(3)", x.count(3), 5);
        about("the newest one holds");
        due("TURNS", x.of(0, 1), 5);
        about("without one there are no CLAUSES");
        TrueHeard y = with("", 2);
        y.way(TOLLED, 9, 0, 5);
        due("TURNS", y.of(0, 1), 0);
        due("DRIFT", y.of(0, 2), 0);
        due("COSTS", y.at(0, 5), 14);
        y.hour(15);
        due("STATE an HOUR on", y.of(0, 0), 2);
        coast(y, "turn 0 t=1 ");
        due("TURNS behind a FAULT", y.of(0, 1), 0);
    }

    // ---- 1: an hour goes

    private static void modulo4() {
        about("STATE becomes (STATE and TURNS, together) modulo 4");
        for (int state = 0; state <= 3; state++) {
            for (int turns : new int[] {0, 1, 2, 3, 4, 5, 98, 99}) {
                String turn = "turn " + turns + " t=0;turn 99 t=1;turn 99 t=1;turn " + turns + " t=1";
                TrueHeard x = with(turn, state, state);
                x.way(RUNNER, 0, 1, 0);
                due("TURNS of 0", x.of(0, 1), turns);
                due("TURNS of 1", x.of(1, 1), 198 + turns);
                due("tell(0, 0)", x.tell(0, 0), 1 << (state + turns) % 4);
                x.hour(15);
                due(state + " by " + turns, x.of(0, 0), (state + turns) % 4);
                due(state + " by 198 and " + turns, x.of(1, 0), (state + turns + 2) % 4);
                about("or, with odds of DRIFT of two, 1 more than that, modulo 4");
                x = with(turn.replace("turn 99 t=1;turn 99 t=1", "drift 1 t=0;drift 2 t=1"), state, state);
                x.way(RUNNER, 0, 1, 0);
                due("tell(0, 0)", x.tell(0, 0), 1 << (state + turns) % 4 | 1 << (state + turns + 1) % 4);
                due("tell(1, 0)", x.tell(1, 0), 1 << (state + turns + 1) % 4);
                x.hour(1);
                due(state + " by " + turns + " and 1", x.of(0, 0), (state + turns + 1) % 4);
                due(state + " by " + turns + " and 1", x.of(1, 0), (state + turns + 1) % 4);
            }
        }
    }

    private static void driftAtMost() {
        about("DRIFT (the n of all drift whose E holds, together, 2 at most)");
        String[] coasts = {
            "drift 0 t=0", "drift 1 t=0", "drift 1 t=0;drift 1 t=0", "drift 2 t=0", "drift 3 t=0", "drift 2 t=0;drift 1 t=0",
            "drift 99 t=0", "drift 99 t=0;drift 99 t=0", "drift 1 t=0;drift 99 t=1", "drift 0 t=0;drift 0 t=0",
        };
        int[] drifts = {0, 1, 2, 2, 2, 2, 2, 2, 1, 0};
        for (int i = 0; i < coasts.length; i++) {
            TrueHeard x = with(coasts[i], 0);
            x.way(RUNNER, 0, 1, 0);
            due(coasts[i], x.of(0, 2), drifts[i]);
            saying(x, "a=1");
            odds(x, 0, 0, Math.min(1, drifts[i]), drifts[i] == 1 ? 2 : 1);
        }
    }

    private static void bitsOfHour() {
        about("THINGS whose DRIFT is 2, and those of the bits whose DRIFT is 1, become 1 more besides");
        for (int bits = 0; bits <= 15; bits++) {
            TrueHeard x = with("drift 1 t=0;drift 2 t=1;drift 1 t=3", 3, 3, 3, 3);
            due("hour(" + bits + ")", x.hour(bits), 1);
            due("0 by " + bits, x.of(0, 0), bits % 2 == 1 ? 0 : 3);
            due("1 by " + bits, x.of(1, 0), 0);
            due("2 by " + bits, x.of(2, 0), 3);
            due("3 by " + bits, x.of(3, 0), bits >= 8 ? 0 : 3);
        }
        TrueHeard y = with("drift 1 t<4", 0);
        due("bits of THINGS that there are not", y.hour(14), 1);
        due("0", y.of(0, 0), 0);
    }

    // ---- 1: takes, costs

    private static void takes(String of, int kind, int v, int hour, int... takes) {
        for (int hours = 0; hours < takes.length; hours++) {
            TrueHeard x = new TrueHeard();
            x.way(kind, v, hours, 0);
            hours(x, hour);
            due(of + " of HOURS " + hours + ", v " + v + " at HOUR " + hour, x.at(0, 4), takes[hours]);
        }
    }

    private static void takesOfBells() {
        about("RUNNER: HOURS");
        takes("RUNNER", RUNNER, 9, 0, 0, 1, 2, 3, 4, 5, 6);
        takes("RUNNER", RUNNER, 8, 7, 0, 1, 2, 3, 4, 5, 6);
        about("BELL, TOLLED: the half of HOURS, rounded up");
        for (int kind : new int[] {BELL, TOLLED}) {
            takes("a " + kind, kind, 9, 0, 0, 1, 1, 2, 2, 3, 3);
            takes("a " + kind, kind, 8, 7, 0, 1, 1, 2, 2, 3, 3);
        }
    }

    private static void takesOfBoats() {
        about("BOAT: HOURS, and v modulo 3, if HOUR is odd");
        for (int v = 0; v <= 9; v++) {
            int more = v % 3;
            for (int even = 0; even <= 12; even += 6) {
                takes("BOAT", BOAT, v, even, 0, 1, 2, 3, 4, 5, 6);
                takes("BOAT", BOAT, v, even + 1, more, 1 + more, 2 + more, 3 + more, 4 + more, 5 + more, 6 + more);
            }
        }
        about("TOWED: as BOAT, 1 less (0 at least)");
        for (int v = 0; v <= 9; v += 3) {
            takes("TOWED", TOWED, v, 2, 0, 0, 1, 2, 3, 4, 5);
            takes("TOWED", TOWED, v, 3, 0, 0, 1, 2, 3, 4, 5);
        }
        takes("TOWED", TOWED, 1, 3, 0, 1, 2, 3, 4, 5, 6);
        takes("TOWED", TOWED, 8, 3, 1, 2, 3, 4, 5, 6, 7);
        takes("TOWED", TOWED, 8, 0, 0, 0, 1, 2, 3, 4, 5);
    }

    private static void takesOfFires() {
        about("FIRE: 1, if HOUR modulo 12 is 6 or more, else HOURS");
        for (int hour : new int[] {0, 5, 12, 17, 24}) {
            takes("FIRE", FIRE, 9, hour, 0, 1, 2, 3, 4, 5, 6);
            takes("BRIBED", BRIBED, 9, hour, 0, 1, 2, 3, 4, 5, 6);
        }
        for (int hour : new int[] {6, 11, 18, 23}) {
            takes("FIRE", FIRE, 9, hour, 1, 1, 1, 1, 1, 1, 1);
            takes("BRIBED", BRIBED, 9, hour, 1, 1, 1, 1, 1, 1, 1);
        }
        about("BRIBED: as FIRE, and SITS");
        for (int sits = 0; sits <= 6; sits++) {
            TrueHeard x = new TrueHeard();
            x.way(BRIBED, 9, 6, 0);
            x.bribe(0, sits);
            hours(x, 5);
            due("at HOUR 5, " + sits, x.at(0, 4), 6 + sits);
            x.hour(0);
            due("at HOUR 6, " + sits, x.at(0, 4), 1 + sits);
        }
    }

    private static void costs() {
        about("COSTS of it: COST, and the n of all dear whose E holds, together; TOLLED: v more");
        String dear = "dear 99 k<7" + times(6, ";dear 99 s>8");
        for (int kind = 0; kind <= 6; kind++) {
            TrueHeard x = with(dear);
            x.way(kind, 9, 0, 99);
            x.way(kind, 0, 0, 0);
            due("the most of a " + kind, x.at(0, 5), 8 * 99 + (kind == TOLLED ? 9 : 0));
            due("the least of a " + kind, x.at(1, 5), 7 * 99);
            due("COST of a " + kind, x.at(0, 3), 99);
        }
    }

    // ---- 1: sayings

    private static void noSuchThing() {
        about("a the STATE of THING 0, b of 1 and so on (9: there is no such THING)");
        for (int i = 0; i < 4; i++) {
            char name = "abcd".charAt(i);
            TrueHeard x = new TrueHeard();
            x.way(RUNNER, 0, 0, 0);
            saying(x, name + "=9");
            saying(x, name + ">8&" + name + "<10");
            saying(x, name + "<4");
            for (int n = 0; n <= i; n++) {
                odds(x, 0, 0, 1, 1);
                odds(x, 1, 0, 1, 1);
                odds(x, 2, 0, 0, 1);
                x.thing(3);
            }
            odds(x, 0, 0, 0, 1);
            odds(x, 1, 0, 0, 1);
            odds(x, 2, 0, 1, 1);
        }
        about("FAULT likewise");
        TrueHeard x = new TrueHeard();
        due("e", saying(x, "e=1"), -10);
        due("t", saying(x, "a=1&t=1"), -14);
        due("a of a COAST", coast(x, "turn 1 a=1"), -17);
        due("a CLAUSE", saying(x, "turn 1 t=1"), -10);
    }

    private static void hourOfSayings() {
        about("h HOUR modulo 12");
        TrueHeard x = new TrueHeard();
        x.way(RUNNER, 0, 0, 0);
        x.way(RUNNER, 0, 6, 0);
        saying(x, "h=11");
        saying(x, "h=0");
        saying(x, "h>11");
        saying(x, "h=5");
        hours(x, 11);
        odds(x, 0, 0, 1, 1);
        odds(x, 3, 1, 1, 1);
        x.hour(0);
        odds(x, 0, 0, 0, 1);
        odds(x, 1, 0, 1, 1);
        odds(x, 2, 0, 0, 1);
        hours(x, 5);
        odds(x, 0, 1, 1, 1);
        odds(x, 3, 0, 1, 1);
        x.hour(0);
        odds(x, 1, 1, 1, 1);
    }

    private static void sayingsAtMost() {
        about("SAYINGS are numbered from 0 on, 5 at most");
        TrueHeard x = with("", 0);
        x.way(RUNNER, 0, 0, 0);
        for (int i = 0; i < 5; i++) {
            due("count(2)", x.count(2), i);
            due("sure(" + i + ", 0) ahead of it", x.sure(i, 0), NONE);
            due("saying()", saying(x, i % 2 == 0 ? "a=0" : "a=1"), i);
            due("sure(" + i + ", 0)", x.sure(i, 0), i % 2 == 0 ? 2 : 0);
        }
        feed(x, "a=1");
        due("a sixth", x.saying(), FULL);
        due("count(2)", x.count(2), 5);
        due("sure(5, 0)", x.sure(5, 0), NONE);
        due("sure(0, 0)", x.sure(0, 0), 2);
        due("sure(4, 0)", x.sure(4, 0), 2);
    }

    // ---- 2: odds and what goes by them

    /** Four THINGS that leave STATE 0 by even odds and stay where they came to; BRIBED, 12 HOURS. */
    private static TrueHeard leaving() {
        TrueHeard x = with("drift 1 s=0;dear 99 k=6", 0, 0, 0, 0);
        x.way(BRIBED, 0, 6, 99);
        x.bribe(0, 6);
        saying(x, "a=0&b=0&c=0&d=0");
        saying(x, "a>0|b>0|c>0|d>0");
        saying(x, "a=0");
        saying(x, "a<2");
        saying(x, "a=2");
        return x;
    }

    private static void heard() {
        about("HEARD by a WAY (sent now): behind as many HOURS as it TAKES");
        TrueHeard x = with("turn 1 h<6;turn 2 h>5", 0);
        x.way(RUNNER, 0, 0, 0);
        x.way(RUNNER, 0, 6, 0);
        x.way(BRIBED, 0, 6, 0);
        x.bribe(2, 6);
        due("0 HOURS", x.tell(0, 0), 1);
        due("6 HOURS: 6 times 1", x.tell(0, 1), 1 << 2);
        due("12 HOURS: 6 times 1, 6 times 2", x.tell(0, 2), 1 << 2);
        hours(x, 5);
        x.put(0, 0);
        due("12 HOURS from 5 on: 1, 6 times 2, 5 times 1", x.tell(0, 2), 1 << 2);
        due("6 HOURS from 5 on: 1, 5 times 2", x.tell(0, 1), 1 << 3);
    }

    private static void lowestTerms() {
        about("a fraction in lowest terms");
        TrueHeard x = leaving();
        odds(x, 0, 0, 1, 1L << 48);
        odds(x, 1, 0, (1L << 48) - 1, 1L << 48);
        odds(x, 2, 0, 1, 4096);
        odds(x, 3, 0, 1, 1);
        odds(x, 4, 0, 0, 1);
        self(x, 2, 1, 1L << 48);
        x.put(0, 1);
        odds(x, 0, 0, 0, 1);
        odds(x, 1, 0, 1, 1);
        x.bribe(0, 0);
        odds(x, 2, 0, 0, 1);
        x.put(0, 0);
        odds(x, 0, 0, 1, 1L << 24);
        odds(x, 2, 0, 1, 64);
        about("part 0 above, 1 below the line");
        for (int part : new int[] {MIN, -1, 2, MAX}) {
            due("odds(0, 0, " + part + ")", x.odds(0, 0, part), NO);
            due("worth(0, 0, 0, 0, " + part + ")", x.worth(0, 0, 0, 0, part), NO);
            due("self(0, 0, 0, " + part + ")", x.self(0, 0, 0, part), NO);
        }
    }

    private static void surely() {
        about("SURE: 2, if these are 1, 0, if these are 0, else 1");
        TrueHeard x = leaving();
        due("the least odds that there can be", x.sure(0, 0), 1);
        due("the most but 1", x.sure(1, 0), 1);
        due("1", x.sure(3, 0), 2);
        due("0", x.sure(4, 0), 0);
    }

    private static void tells() {
        about("TELL: the STATES, as bits, that it may have when it is HEARD");
        TrueHeard x = leaving();
        due("one by odds of 4096", x.tell(3, 0), 1 + 2);
        for (int state = 1; state <= 3; state++) {
            x.put(3, state);
            due("one alone", x.tell(3, 0), 1 << state);
        }
        TrueHeard y = with("drift 1 t=0", 3);
        int[] may = {8, 8 + 1, 8 + 1 + 2, 15, 15, 15, 15};
        for (int hours = 0; hours <= 4; hours++) {
            y.way(RUNNER, 0, hours, 0);
            due("in " + hours, y.tell(0, hours), may[hours]);
        }
    }

    private static void which() {
        about("WHICH: the WAY with the most ODDS; of several that which COSTS least; of several the least (-5: none)");
        TrueHeard x = leaving();
        TrueHeard none = with("", 0);
        saying(none, "a=0");
        due("no WAYS", none.which(0), -5);
        due("one WAY, without odds", x.which(4), 0);
        x.way(BRIBED, 0, 0, 98);
        x.way(BRIBED, 0, 0, 97);
        x.way(BRIBED, 0, 0, 97);
        x.bribe(2, 6);
        x.bribe(3, 6);
        due("a>0 and so on: the most odds, though dearest", x.which(1), 0);
        due("a=0 and so on: the most odds", x.which(0), 1);
        due("all by 1: costs least, the first of two", x.which(3), 2);
        due("all by 0: costs least, the first of two", x.which(4), 2);
        x.way(RUNNER, 0, 0, 99);
        due("97 and 99 by dear are more than 99", x.which(3), 4);
        TrueHeard y = leaving();
        y.way(RUNNER, 0, 5, 0);
        due("more by one of 2 to the power of 48", y.which(1), 0);
        y.way(BRIBED, 0, 6, 98);
        y.bribe(2, 6);
        due("as much for 1 less", y.which(1), 2);
    }

    private static void worth() {
        about("w and f (0 .. 99 each)");
        TrueHeard x = leaving();
        for (int bad : new int[] {MIN, -1, 100, MAX}) {
            due("w " + bad, x.worth(0, 0, bad, 0, 0), NO);
            due("f " + bad, x.worth(0, 0, 0, bad, 0), NO);
        }
        about("WORTH: a fraction in lowest terms (above the line below 0, if it is)");
        due("by 1: 99 - 198", x.worth(3, 0, 99, 99, 0), -99);
        due("by 1, below", x.worth(3, 0, 99, 99, 1), 1);
        due("by 0: -99 - 198", x.worth(4, 0, 99, 99, 0), -297);
        due("by 0, 0 and 0", x.worth(4, 0, 0, 0, 0), -198);
        due("99 of 2^48, -198", x.worth(0, 0, 99, 0, 0), 99 - 198 * (1L << 48));
        due("99 of 2^48, below", x.worth(0, 0, 99, 0, 1), 1L << 48);
        due("99 of 2^48, -297 and 99 of it", x.worth(0, 0, 99, 99, 0), 99 - 297 * (1L << 47));
        due("99 of 2^48, -297 and 99 of it, below", x.worth(0, 0, 99, 99, 1), 1L << 47);
        TrueHeard y = with("dear 99 t=9" + times(6, ";dear 99 s=9"), 0);
        y.way(TOLLED, 9, 0, 99);
        saying(y, "a=1");
        due("the least that there is", y.worth(0, 0, 99, 99, 0), -99 - 801);
        y.put(0, 1);
        coast(y, "dear 0 t=9");
        due("99 - 99 - 9", y.worth(0, 0, 99, 0, 0), -9);
        y.way(RUNNER, 0, 0, 0);
        due("the most that there is", y.worth(0, 1, 99, 99, 0), 99);
        due("0", y.worth(0, 1, 0, 99, 0), 0);
        due("0, below", y.worth(0, 1, 0, 99, 1), 1);
    }

    private static void sit() {
        about("SIT: the least number of hours (0 .. 6) (-5: by none)");
        TrueHeard x = leaving();
        due("0", x.sit(3, 0), 0);
        due("but for odds of 2^-18 each", x.sit(1, 0), -5);
        for (int later = 0; later <= 7; later++) {
            TrueHeard y = with("turn 1 h=" + (2 + later), 1);
            y.way(RUNNER, 0, 3, 0);
            saying(y, "a=2");
            due("so from " + (3 + later) + " HOURS on", y.sit(0, 0), later < 7 ? later : -5);
        }
        TrueHeard y = with("", 0);
        y.way(BRIBED, 0, 6, 0);
        y.bribe(0, 6);
        saying(y, "h=0");
        saying(y, "h=6");
        saying(y, "h=7");
        due("12 HOURS at once", y.sit(0, 0), 0);
        due("18 HOURS at most", y.sit(1, 0), 6);
        due("19 are too many", y.sit(2, 0), -5);
        due("SITS stays", y.at(0, 6), 6);
        about("SIT without THINGS, HOURS on");
        TrueHeard z = with("turn 1 t<4");
        z.way(RUNNER, 0, 0, 0);
        saying(z, "h=4");
        for (int hour = 0; hour <= 4; hour++) {
            due("at HOUR " + hour, z.sit(0, 0), 4 - hour);
            begins(z, 0, hour == 4 ? 1 : 0, hour == 4 ? 0 : -5);
            z.hour(15);
        }
        due("at HOUR 5: by none", z.sit(0, 0), -5);
    }

    // ---- 2: catch, all, begin

    private static void catches() {
        about("CATCH by n (0 .. 6)");
        TrueHeard x = new TrueHeard();
        for (int hours = 0; hours <= 3; hours++) {
            x.way(RUNNER, 0, 2 * hours, 0);
        }
        for (int n : new int[] {MIN, -1, 7, MAX}) {
            due("catches(0, 0, " + n + ")", x.catches(0, 0, n), BAD);
        }
        about("no later than that sent by the first one now (1, 0)");
        for (int one = 0; one <= 3; one++) {
            for (int other = 0; other <= 3; other++) {
                for (int n = 0; n <= 6; n++) {
                    int due = n + 2 * other <= 2 * one ? 1 : 0;
                    due("catches(" + one + ", " + other + ", " + n + ")", x.catches(one, other, n), due);
                }
            }
        }
        TrueHeard y = new TrueHeard();
        y.way(RUNNER, 0, 6, 0);
        y.way(FIRE, 0, 6, 0);
        y.way(RUNNER, 0, 5, 0);
        hours(y, 1);
        due("a FIRE at HOUR 6: 5 and 1", y.catches(0, 1, 5), 1);
        due("one HOUR too late", y.catches(2, 1, 5), 0);
        due("a FIRE at HOUR 5: 4 and 6", y.catches(0, 1, 4), 0);
    }

    private static void all() {
        about("ALL: (the most; 0 without WAYS); what all that COSTS");
        TrueHeard x = with("dear 99 t=9" + times(6, ";dear 99 s=9"));
        due("HOURS without", x.all(0), 0);
        due("COSTS without", x.all(1), 0);
        int[] most = {0, 6, 6, 6, 6};
        for (int i = 0; i < 5; i++) {
            x.way(i == 0 ? TOLLED : RUNNER, 9, i == 1 ? 6 : i == 0 ? 0 : 5, 99);
            due("HOURS of " + (i + 1), x.all(0), most[i]);
            due("COSTS of " + (i + 1), x.all(1), (i + 1) * 8 * 99 + 9);
        }
    }

    private static void begin() {
        about("BEGIN: how many there are; the least (-5: none)");
        TrueHeard x = with("", 2, 1, 0, 3);
        x.way(RUNNER, 0, 0, 0);
        saying(x, "a=3&b=3&c=3&d=3");
        saying(x, "a<4");
        saying(x, "a=9");
        saying(x, "d=1");
        saying(x, "b=2&c>1");
        begins(x, 0, 1, 255);
        begins(x, 1, 256, 0);
        begins(x, 2, 0, -5);
        begins(x, 3, 64, 64);
        begins(x, 4, 32, 2 * 4 + 2 * 16);
        about("all rows of STATES that all THINGS could have now");
        TrueHeard y = new TrueHeard();
        y.way(RUNNER, 0, 0, 0);
        saying(y, "a=9|a<4");
        saying(y, "a=9&b=9&c=9&d=9");
        for (int things = 0; things <= 4; things++) {
            begins(y, 0, 1 << 2 * things, 0);
            begins(y, 1, things == 0 ? 1 : 0, things == 0 ? 0 : -5);
            y.thing(3);
        }
        TrueHeard z = leaving();
        begins(z, 1, 255, 1);
        begins(z, 2, 0, -5);
        begins(z, 3, 128, 0);
    }

    // ---- 2: heed, told back, rows

    private static void heed() {
        about("HEED: a THING's STATE becomes another one at once (none at first)");
        TrueHeard x = with("", 1, 1, 1, 1);
        x.way(RUNNER, 0, 0, 0);
        saying(x, "a=1&b=1&c=1&d=1");
        self(x, 1, 1, 1);
        for (int thing = 0; thing <= 3; thing++) {
            for (int state = 0; state <= 3; state++) {
                due("heed(" + thing + ", " + state + ")", x.heed(thing, state), 1);
                self(x, 0, 1, 1);
                self(x, 1, state == 1 ? 1 : 0, 1);
                self(x, 2, state == 1 ? 1 : 0, 1);
            }
        }
        about("thing -1: none does, whatever state is");
        for (int state : new int[] {MIN, -1, 0, 3, 4, MAX}) {
            x.heed(3, 0);
            self(x, 1, 0, 1);
            due("heed(-1, " + state + ")", x.heed(-1, state), 1);
            self(x, 1, 1, 1);
        }
        due("without THINGS", new TrueHeard().heed(-1, 4), 1);
    }

    private static void back() {
        about("TOLD BACK: m HOURS (0 .. 6) from now");
        TrueHeard x = with("drift 1 t=0;turn 1 t=1", 0, 0, 2);
        int[] from = {8, 8 + 4, 8 + 4 + 2, 15, 15, 15, 15};
        for (int m = 0; m <= 6; m++) {
            due("drifts, " + m, x.back(0, 3, m), from[m]);
            due("turns, " + m, x.back(1, 0, m), 1 << (8 - m) % 4);
            for (int state = 0; state <= 3; state++) {
                due("stays, " + m, x.back(2, state, m), 1 << state);
            }
        }
        for (int bad : new int[] {MIN, -1, MAX}) {
            due("m " + bad, x.back(0, 0, bad), BAD);
            due("state " + bad, x.back(0, bad, 0), BAD);
        }
        due("m 7", x.back(0, 0, 7), BAD);
        due("state 4", x.back(0, 4, 0), BAD);
    }

    private static void rowAtMost() {
        about("A ROW told by hand (12 at most)");
        TrueHeard x = with("turn 1 t=0", 0);
        due("empty, -1", x.row(-1), 0);
        for (int i = 0; i < 12; i++) {
            due("row(" + i % 4 + ")", x.row(i % 4), i + 1);
            due("looked()", x.looked(), -5);
        }
        due("a 13th that would not follow", x.row(3), FULL);
        due("count(4)", x.count(4), 12);
        due("looked()", x.looked(), -5);
        due("none", x.row(-1), 0);
        due("count(4)", x.count(4), 0);
        due("a first one", x.row(0), 1);
        for (int state : new int[] {MIN, -2, 4, MAX}) {
            due("row(" + state + ")", x.row(state), BAD);
        }
        due("count(4)", x.count(4), 1);
    }

    private static void looked() {
        about("LOOKED at: the first one that can not be behind the one ahead of it (-5: none)");
        for (int wrong = 1; wrong <= 11; wrong++) {
            int[] states = new int[12];
            for (int i = 0; i < 12; i++) {
                states[i] = i < wrong ? i % 4 : (i + 1) % 4;
            }
            rows(with("turn 1 t=0", 0), wrong, states);
        }
        TrueHeard x = with("drift 1 s=1;turn 3 s=3", 1);
        about("(the first one: that is not as it is now) (-5: none)");
        rows(x, -5);
        rows(x, -5, 1);
        for (int state : new int[] {0, 2, 3}) {
            rows(x, 0, state, 1, 1);
        }
        rows(x, -5, 1, 1, 2, 2);
        rows(x, 2, 1, 1, 3);
        rows(x, 3, 1, 2, 2, 3);
        x.put(0, 3);
        rows(x, 1, 3, 3);
        rows(x, -5, 3, 2);
        about("HOUR by HOUR, the first one now");
        TrueHeard y = with("turn 1 h=11;turn 2 h=0", 0);
        hours(y, 11);
        y.put(0, 0);
        rows(y, -5, 0, 1, 3, 3);
        rows(y, 1, 0, 2);
        rows(y, 2, 0, 1, 2);
    }

    // ---- 2: acts

    private static void wraps() {
        about("ACTS of a WAY with x (ints, wrapping)");
        TrueHeard x = new TrueHeard();
        x.way(RUNNER, 0, 0, 0);
        x.way(RUNNER, 9, 0, 0);
        x.way(BELL, 3, 0, 0);
        x.way(BOAT, 4, 0, 0);
        x.way(FIRE, 5, 0, 0);
        due("RUNNER 0 sends MAX", x.act(0, 0, MAX), MAX);
        due("RUNNER sends MAX", x.act(1, 0, MAX), MIN);
        due("RUNNER takes MIN", x.act(1, 1, MIN), MAX - 7);
        due("RUNNER tells MAX: twice MIN + 1 - 10", x.act(1, 2, MAX), -18);
        due("BELL sends MAX: 3 times it, and 2", x.act(2, 0, MAX), MAX - 2 + 2);
        due("BELL sends MIN: 3 times it is it", x.act(2, 0, MIN), MIN + 2);
        due("BELL takes 1 << 30", x.act(2, 1, 1 << 30), -(1 << 30) - 1);
        due("BOAT takes: - of MIN is MIN", x.act(3, 1, MIN + 1), MIN);
        due("BOAT takes MIN", x.act(3, 1, MIN), -MAX);
        due("BOAT tells MIN + 1: twice MIN", x.act(3, 2, MIN + 1), 0);
        due("FIRE tells MAX: twice MAX - 1", x.act(4, 2, MAX), -4 ^ 7);
        TrueHeard y = new TrueHeard();
        y.way(TOLLED, 9, 0, 0);
        y.way(TOWED, 0, 0, 0);
        y.way(BRIBED, 9, 0, 0);
        due("TOLLED tells MIN: x - 1 is MAX, 3 times it MAX - 2", y.act(0, 2, MIN), (MAX - 11) * 2 + 6);
        due("TOLLED tells 0", y.act(0, 2, 0), -24 + 6);
        due("TOWED sends MAX", y.act(1, 0, MAX), MIN ^ 1);
        due("TOWED takes MAX", y.act(1, 1, MAX), MAX);
        due("BRIBED takes MAX: on and back", y.act(2, 1, MAX), MIN + 1);
        due("BRIBED tells MAX", y.act(2, 2, MAX), 2 ^ 7);
    }

    /** Where the bits of both are set, ^ is neither | nor +. */
    private static void bitsOfActs() {
        about("TOWED: super.sends(x) ^ i; FIRE: super.tells(x) ^ 7");
        TrueHeard x = new TrueHeard();
        for (int i = 0; i < 4; i++) {
            x.way(TOWED, 0, 0, 0);
        }
        x.way(FIRE, 0, 0, 0);
        for (int i = 0; i < 4; i++) {
            due("TOWED " + i + " sends 0: its number and itself", x.act(i, 0, 0), 0);
            due("TOWED " + i + " sends -i - 1: all bits but its own", x.act(i, 0, -i - 1), -1 - i);
        }
        due("TOWED 3 sends 4: 7 ^ 3", x.act(3, 0, 4), 4);
        due("TOWED 3 sends 5: 8 ^ 3", x.act(3, 0, 5), 11);
        due("FIRE 4 tells 0: 8 ^ 7", x.act(4, 2, 0), 15);
        due("FIRE 4 tells -1: 6 ^ 7", x.act(4, 2, -1), 1);
        due("FIRE 4 tells -5: -2 ^ 7", x.act(4, 2, -5), -7);
    }

    private static void traceKept() {
        about("THE TRACE: the numbers of the bodies that ran in the latest act(); the first 20 are kept");
        TrueHeard x = new TrueHeard();
        due("none at first", x.trace(0), NONE);
        x.way(TOLLED, 0, 0, 0);
        x.way(BRIBED, 0, 0, 0);
        x.act(0, 2, 0);
        trace(x, 41, 3, 2, 11, 1, 11, 1);
        for (int i : new int[] {MIN, -1, 7, 19, 20, 21, MAX}) {
            due("trace(" + i + ")", x.trace(i), NONE);
        }
        for (int n = 0; n < 25; n++) {
            x.act(1, 1, n);
        }
        trace(x, 61, 2, 1);
        for (int act : new int[] {MIN, -1, 3, MAX}) {
            x.act(1, 0, 0);
            due("act(1, " + act + ", 5)", x.act(1, act, 5), 0);
            trace(x);
        }
        for (int way : new int[] {MIN, -1, 2, MAX}) {
            x.act(1, 0, 0);
            due("act(" + way + ", 0, 5)", x.act(way, 0, 5), 0);
            trace(x);
        }
    }

    private static void atOnce() {
        about("each THING by itself");
        TrueHeard x = with("drift 1 t<4", 0, 0);
        x.way(RUNNER, 0, 1, 0);
        saying(x, "a=0&b=1");
        saying(x, "a=0&a=1");
        odds(x, 0, 0, 1, 4);
        odds(x, 1, 0, 0, 1);
    }

    public static void main(String[] args) {
        Runnable[] bounds = {
            BoundsTest::thingsAtMost, BoundsTest::states, BoundsTest::hourAtFirst, BoundsTest::waysAtMost,
            BoundsTest::kinds, BoundsTest::numbersOfWays, BoundsTest::sits, BoundsTest::tapeAtMost,
            BoundsTest::tapeFullOfFaults, BoundsTest::emptyTape, BoundsTest::clausesAtMost, BoundsTest::blanks,
            BoundsTest::digits, BoundsTest::tests, BoundsTest::testsOfThings, BoundsTest::testsOfWays,
            BoundsTest::open, BoundsTest::faults, BoundsTest::coastsAtMost, BoundsTest::modulo4,
            BoundsTest::driftAtMost, BoundsTest::bitsOfHour, BoundsTest::takesOfBells, BoundsTest::takesOfBoats,
            BoundsTest::takesOfFires, BoundsTest::costs, BoundsTest::noSuchThing, BoundsTest::hourOfSayings,
            BoundsTest::sayingsAtMost, BoundsTest::heard, BoundsTest::lowestTerms, BoundsTest::surely,
            BoundsTest::tells, BoundsTest::which, BoundsTest::worth, BoundsTest::sit, BoundsTest::catches,
            BoundsTest::all, BoundsTest::begin, BoundsTest::heed, BoundsTest::back, BoundsTest::rowAtMost,
            BoundsTest::looked, BoundsTest::wraps, BoundsTest::bitsOfActs, BoundsTest::traceKept, BoundsTest::atOnce,
        };
        for (Runnable one : bounds) {
            one.run();
        }
        end();
    }
}
