/** Each promise of the document by itself, with answers reckoned by hand: ordinary calls, edges, wrong inputs. */
public final class PromisesTest extends Dues {
    /** THING 0 goes 1 on each HOUR, THING 1 by even odds, THING 2 surely by drift, THING 3 stays; BELLS are dear. */
    private static TrueHeard sea() {
        TrueHeard x = new TrueHeard();
        coast(x, "turn 1 t=0;drift 1 t=1;drift 2 t=2;dear 5 k=1");
        return x;
    }

    /** THING 0 goes 1 on from HOUR 1, 2 from HOUR 2; WAYS that take 3 and 2 HOURS. */
    private static TrueHeard tide() {
        TrueHeard x = new TrueHeard();
        coast(x, "turn 1 h=1;turn 2 h=2");
        x.thing(0);
        x.way(0, 0, 3, 0);
        x.way(0, 0, 2, 0);
        return x;
    }

    private static void promise1() {
        TrueHeard x = new TrueHeard();
        counts(x, 0, 0, 0, 0, 0, 0, 0);
        due("now()", x.now(), 0);
        due("undo()", x.undo(), STATE);
        x.thing(2);
        x.way(0, 0, 1, 3);
        due("TURNS without a COAST", x.of(0, 1), 0);
        due("DRIFT without a COAST", x.of(0, 2), 0);
        due("COSTS without a COAST", x.at(0, 5), 3);
        saying(x, "a=2");
        due("no HEED at first", x.self(0, 0, 1, 0), 1);
        due("NO", TrueHeard.NO, Long.MIN_VALUE);
        due("NONE", TrueHeard.NONE, NONE);
        due("BAD", TrueHeard.BAD, BAD);
        due("STATE", TrueHeard.STATE, STATE);
        due("FULL", TrueHeard.FULL, FULL);
    }

    private static void promise2() {
        TrueHeard x = new TrueHeard();
        due("feed(-1)", x.feed(-1), BAD);
        due("feed(128)", x.feed(128), BAD);
        due("feed(MIN)", x.feed(MIN), BAD);
        due("feed(MAX)", x.feed(MAX), BAD);
        due("nothing fed", x.count(5), 0);
        due("feed(0)", x.feed(0), 1);
        due("feed(127)", x.feed(127), 2);
        for (int i = 3; i <= 100; i++) {
            due("feed a " + i + "th", x.feed(' '), i);
        }
        due("a 101st sign", x.feed(' '), FULL);
        due("BAD is told ahead of FULL", x.feed(128), BAD);
        due("100 signs", x.count(5), 100);
        due("a sign 0 first", x.coast(), -10);
    }

    private static void promise3() {
        TrueHeard x = new TrueHeard();
        x.thing(1);
        due("empty", x.coast(), -10);
        due("d", coast(x, "d"), -11);
        due("drear", coast(x, "drear"), -12);
        due("dea", coast(x, "dea"), -13);
        due("turns", coast(x, "turns"), -14);
        due("turn and a line's end", coast(x, "turn\n1 t=0"), -14);
        due("two blanks", coast(x, "turn  1 t=0"), -15);
        due("no number", coast(x, "turn t=0"), -15);
        due("a : behind 9", coast(x, "turn : t=0"), -15);
        due("a : as the second digit", coast(x, "turn 1: t=0"), -16);
        due("a / ahead of 0", coast(x, "turn 1/ t=0"), -16);
        due("three digits", coast(x, "dear 100 t=0"), -17);
        due("0 ahead", coast(x, "dear 00 t=0"), -16);
        due("no E", coast(x, "turn 1 "), -17);
        due("a SAYING's name", coast(x, "turn 1 b=1"), -17);
        due("no sign behind the name", coast(x, "turn 1 t1"), -18);
        due("a blank in E", coast(x, "turn 1 t =1"), -18);
        due("nothing behind =", coast(x, "turn 1 t="), -19);
        due("three digits in E", coast(x, "turn 1 t=123"), -21);
        due("0 ahead in E", coast(x, "turn 1 t=01"), -20);
        due("( not ended", coast(x, "turn 1 (t=1"), -21);
        due(") without (", coast(x, "turn 1 t=1)"), -20);
        due("; within (", coast(x, "turn 1 (t=1;turn 1 t=1"), -21);
        due("ends with &", coast(x, "turn 1 t=1&"), -21);
        due("ends with ;", coast(x, "turn 1 t=1;"), -21);
        due("a blank behind ;", coast(x, "turn 1 t=1; turn"), -21);
        due("6 open", coast(x, "turn 1 !(!(!(t=0"), -22);
        due("6 open, ( last", coast(x, "turn 1 (((!(("), -22);
        due("no COAST by a FAULT", x.count(3), 0);
        for (int i = 0; i < 12; i++) {
            due("what was read leaves nothing", coast(x, "turn 1 !t=1&!s=1|!h=1&!k=1;"), -37);
        }
        due("a COAST behind them", coast(x, "turn 7 !t=1&!s=0"), 0);
        due("its TURNS", x.of(0, 1), 7);
        due("the TAPE is empty by a FAULT", x.count(5), 0);
        coastsThatStand();
        coastsThatHold();
        longCoasts();
    }

    private static void coastsThatStand() {
        TrueHeard x = new TrueHeard();
        x.thing(1);
        x.thing(2);
        due("5 open", coast(x, "turn 10 !(!(!t=1))&!!(((s=1)));turn 5 t<9&!h>0;drift 0 k=8|s=2"), 0);
        due("TURNS of 0", x.of(0, 1), 15);
        due("TURNS of 1", x.of(1, 1), 5);
        due("DRIFT of n 0", x.of(1, 2), 0);
        due("the TAPE is empty then", x.count(5), 0);
        due("& closer than |", coast(x, "turn 1 t=1|t=0&s=1;drift 1 t=0&s=0|t=1;drift 3 k=9&t=0"), 1);
        due("TURNS of 0 by the second one", x.of(0, 1), 1);
        due("TURNS of 1 by the second one", x.of(1, 1), 1);
        due("DRIFT 2 at most", x.of(0, 2), 2);
        due("DRIFT of 1", x.of(1, 2), 1);
        due("99 and 99", coast(x, "turn 99 s<99;turn 99 s>0"), 2);
        due("TURNS of 0 by the third one", x.of(0, 1), 198);
    }

    private static void coastsThatHold() {
        TrueHeard x = new TrueHeard();
        x.thing(0);
        for (int i = 0; i < 5; i++) {
            due("a COAST", coast(x, "turn " + (i + 1) + " t=0"), i);
            due("it holds", x.of(0, 1), i + 1);
            due("a FAULT or FULL", coast(x, "x"), i < 4 ? -10 : FULL);
            due("the one that held holds", x.of(0, 1), i + 1);
        }
        due("the TAPE stays when FULL", x.count(5), 1);
        due("FULL again", x.coast(), FULL);
        due("5 COASTS", x.count(3), 5);
    }

    /** Each as long as THE TAPE: what one was read from, with a FAULT or without, leaves nothing to the next. */
    private static void longCoasts() {
        TrueHeard x = new TrueHeard();
        things(x, 0, 1);
        String tests = " t=9" + "|t=9".repeat(21);
        for (int i = 1; i <= 4; i++) {
            boolean fault = i == 1;
            due("a long FAULT or COAST", coast(x, "turn " + i + tests + (fault ? "|t=00" : "|t=0")), fault ? -108 : i - 2);
            due("TURNS of 0 by it", x.of(0, 1), fault ? 0 : i);
            due("TURNS of 1 by it", x.of(1, 1), 0);
        }
        TrueHeard y = new TrueHeard();
        things(y, 0, 1);
        for (int i = 1; i <= 4; i++) {
            String clauses = "turn " + i + " t=9" + "|t=9".repeat(8) + "|t=0;drift 1 t=9" + "|t=9".repeat(6) + "|t=1";
            due("a long COAST of two CLAUSES", coast(y, clauses), i - 1);
            due("TURNS of 0 by it", y.of(0, 1), i);
            due("DRIFT of 0 by it", y.of(0, 2), 0);
            due("TURNS of 1 by it", y.of(1, 1), 0);
            due("DRIFT of 1 by it", y.of(1, 2), 1);
        }
    }

    private static void promise4() {
        TrueHeard x = new TrueHeard();
        x.way(0, 0, 0, 0);
        due("empty", x.saying(), -10);
        due("a COAST's name", saying(x, "s=1"), -10);
        due("t", saying(x, "t=1"), -10);
        due("k", saying(x, "k=1"), -10);
        due("e", saying(x, "e=1"), -10);
        due("ends with ;", saying(x, "a=1;"), -13);
        due("three digits", saying(x, "a=123"), -14);
        due("a :", saying(x, "a=:"), -12);
        due("a : as the second digit", saying(x, "a=1:"), -13);
        due("capitals", saying(x, "A=1"), -10);
        due("ends with |", saying(x, "a=1|"), -14);
        due("6 open", saying(x, "!!!!!!a=1"), -15);
        due("a 6th within a (", saying(x, "!!!!(!a=1"), -15);
        due("a ! is open till its F ends", saying(x, "!!!!!a=1&!!!!!!b=1"), -24);
        due("the TAPE is empty by a FAULT", x.count(5), 0);
        due("none by a FAULT", x.count(2), 0);
        for (int i = 0; i < 12; i++) {
            due("what was read leaves nothing", saying(x, "!a=1&!b=1|!c=1&!d=1|!h=1;"), -34);
        }
        due("5 open, twice", saying(x, "!!!!!a=1&!!!!!b=1|(((((h<99)))))"), 0);
        due("the TAPE is empty then", x.count(5), 0);
        due("b", saying(x, "a=9&b=9&c=9&d=9"), 1);
        odds(x, 0, 0, 1, 1);
        odds(x, 1, 0, 1, 1);
        things(x, 0, 1, 2, 3);
        odds(x, 1, 0, 0, 1);
        due("c", saying(x, "a=0&b=1&c=2&d=3&h=0"), 2);
        odds(x, 2, 0, 1, 1);
        hours(x, 13);
        due("h modulo 12", saying(x, "h=1"), 3);
        odds(x, 3, 0, 1, 1);
        due("a fifth", saying(x, "!h=1|a=0&b>0"), 4);
        odds(x, 4, 0, 1, 1);
        due("a sixth", saying(x, "a=0"), FULL);
        due("the TAPE stays", x.count(5), 3);
        due("5 SAYINGS", x.count(2), 5);
    }

    private static void promise5() {
        TrueHeard x = new TrueHeard();
        due("thing(-1)", x.thing(-1), BAD);
        due("thing(4)", x.thing(4), BAD);
        for (int i = 0; i < 4; i++) {
            due("thing", x.thing(3 - i), i);
            due("its STATE", x.of(i, 0), 3 - i);
        }
        due("BAD is told ahead of FULL", x.thing(4), BAD);
        due("a fifth", x.thing(0), FULL);
        due("4 THINGS", x.count(0), 4);
        due("the first is as it was", x.of(0, 0), 3);
    }

    private static void promise6() {
        TrueHeard x = new TrueHeard();
        due("no THING", x.put(0, 1), NONE);
        things(x, 2, 1);
        due("put(1, 3)", x.put(1, 3), 1);
        due("put(1, 0)", x.put(1, 0), 3);
        due("put(1, -1)", x.put(1, -1), BAD);
        due("put(1, 4)", x.put(1, 4), BAD);
        due("put(2, 4): NONE first", x.put(2, 4), NONE);
        due("put(-1, 0)", x.put(-1, 0), NONE);
        due("put(MIN, 0)", x.put(MIN, 0), NONE);
        due("the other one", x.of(0, 0), 2);
        due("this one", x.of(1, 0), 0);
    }

    private static void promise7() {
        TrueHeard x = new TrueHeard();
        due("no THING", x.of(0, 0), NONE);
        coast(x, "turn 2 h=1;turn 30 s=2;drift 1 t=1;drift 1 k=9&t=1&s>0");
        things(x, 2, 3, 0);
        due("STATE", x.of(0, 0), 2);
        due("TURNS", x.of(0, 1), 30);
        due("DRIFT", x.of(0, 2), 0);
        due("TURNS of 1", x.of(1, 1), 0);
        due("DRIFT of 1", x.of(1, 2), 2);
        x.put(1, 0);
        due("DRIFT of 1 by STATE", x.of(1, 2), 1);
        x.hour(0);
        due("TURNS by HOUR", x.of(1, 1), 2);
        due("of(0, 3)", x.of(0, 3), NONE);
        due("of(0, -1)", x.of(0, -1), NONE);
        due("of(3, 0)", x.of(3, 0), NONE);
        due("of(-1, 0)", x.of(-1, 0), NONE);
        hours(x, 12);
        due("h modulo 12", x.of(1, 1) - (x.of(1, 0) == 2 ? 30 : 0), 2);
    }

    private static void promise8() {
        TrueHeard x = new TrueHeard();
        due("way(-1, ..)", x.way(-1, 0, 0, 0), NONE);
        due("way(7, 10, ..): NONE first", x.way(7, 10, 0, 0), NONE);
        due("v -1", x.way(0, -1, 0, 0), BAD);
        due("v 10", x.way(0, 10, 0, 0), BAD);
        due("HOURS -1", x.way(0, 0, -1, 0), BAD);
        due("HOURS 7", x.way(0, 0, 7, 0), BAD);
        due("COST -1", x.way(0, 0, 0, -1), BAD);
        due("COST 100", x.way(0, 0, 0, 100), BAD);
        due("no WAY yet", x.count(1), 0);
        for (int i = 0; i < 5; i++) {
            due("a WAY", x.way(6 - i, 9, 6, 99), i);
        }
        due("a sixth", x.way(0, 0, 0, 0), FULL);
        due("BAD ahead of FULL", x.way(0, 0, 0, 100), BAD);
        due("NONE ahead of FULL", x.way(7, 0, 0, 0), NONE);
        due("5 WAYS", x.count(1), 5);
    }

    private static void ways(TrueHeard x, int... kinds) {
        for (int kind : kinds) {
            x.way(kind, 5, 3, 10);
        }
    }

    private static void takes(TrueHeard x, int... takes) {
        for (int i = 0; i < takes.length; i++) {
            due("TAKES of " + i + " at HOUR " + x.now(), x.at(i, 4), takes[i]);
        }
    }

    private static void promise9() {
        TrueHeard x = new TrueHeard();
        due("no WAY", x.at(0, 0), NONE);
        x.way(1, 7, 4, 20);
        due("KIND", x.at(0, 0), 1);
        due("v", x.at(0, 1), 7);
        due("HOURS", x.at(0, 2), 4);
        due("COST", x.at(0, 3), 20);
        due("TAKES", x.at(0, 4), 2);
        due("COSTS", x.at(0, 5), 20);
        due("SITS", x.at(0, 6), 0);
        due("at(0, 7)", x.at(0, 7), NONE);
        due("at(0, -1)", x.at(0, -1), NONE);
        due("at(1, 0)", x.at(1, 0), NONE);
        due("at(-1, 0)", x.at(-1, 0), NONE);
        takesByKind();
        costs();
    }

    private static void takesByKind() {
        TrueHeard x = new TrueHeard();
        ways(x, 0, 1, 2, 3, 4);
        TrueHeard y = new TrueHeard();
        ways(y, 5, 6);
        y.way(5, 2, 0, 0);
        y.way(3, 0, 0, 0);
        y.bribe(1, 4);
        takes(x, 3, 2, 3, 3, 2);
        takes(y, 2, 7, 0, 0);
        x.hour(0);
        y.hour(0);
        takes(x, 3, 2, 5, 3, 2);
        takes(y, 4, 7, 1, 0);
        hours(x, 4);
        hours(y, 5);
        takes(x, 3, 2, 5, 3, 2);
        takes(y, 2, 5, 0, 1);
        hours(x, 6);
        hours(y, 6);
        takes(x, 3, 2, 5, 1, 2);
        takes(y, 2, 7, 0, 0);
    }

    private static void costs() {
        TrueHeard x = new TrueHeard();
        ways(x, 0, 4, 1);
        coast(x, "dear 1 t=9;dear 2 s=9;dear 4 k=4;dear 20 h=1;dear 70 t<9|s<9;turn 9 k=4;drift 9 k=4");
        due("COSTS of a RUNNER", x.at(0, 5), 13);
        due("COSTS of a TOLLED", x.at(1, 5), 22);
        due("COSTS of a BELL", x.at(2, 5), 13);
        due("COST stays", x.at(1, 3), 10);
        x.hour(0);
        due("COSTS by HOUR", x.at(0, 5), 33);
        hours(x, 12);
        due("COSTS by HOUR modulo 12", x.at(0, 5), 33);
    }

    private static void promise10() {
        TrueHeard x = new TrueHeard();
        due("no WAY", x.bribe(0, 1), NONE);
        ways(x, 6, 3, 6);
        due("bribe(0, 6)", x.bribe(0, 6), 0);
        due("bribe(0, 2)", x.bribe(0, 2), 6);
        due("SITS", x.at(0, 6), 2);
        due("TAKES", x.at(0, 4), 5);
        due("all else stays", x.at(0, 0) * 1000 + x.at(0, 1) * 100 + x.at(0, 2) * 10 + x.at(0, 3), 6540);
        due("the other one", x.at(2, 6), 0);
        due("bribe(0, 7)", x.bribe(0, 7), BAD);
        due("bribe(0, -1)", x.bribe(0, -1), BAD);
        due("a FIRE", x.bribe(1, 1), STATE);
        due("BAD ahead of STATE", x.bribe(1, 7), BAD);
        due("NONE ahead of BAD", x.bribe(3, 7), NONE);
        due("bribe(-1, 0)", x.bribe(-1, 0), NONE);
        due("SITS stays", x.bribe(0, 0), 2);
        due("i stays", x.act(2, 0, 10), 12);
        x.bribe(2, 1);
        due("i stays still", x.act(2, 0, 10), 12);
    }

    private static void promise11() {
        TrueHeard x = sea();
        due("now()", x.now(), 0);
        x.hour(15);
        due("now()", x.now(), 1);
        x.hour(16);
        due("now()", x.now(), 1);
    }

    private static void promise12() {
        TrueHeard x = sea();
        things(x, 3, 0, 3, 2);
        due("hour(-1)", x.hour(-1), BAD);
        due("hour(16)", x.hour(16), BAD);
        due("hour(15)", x.hour(15), 1);
        due("0 turns round", x.of(0, 0), 0);
        due("1 drifts", x.of(1, 0), 1);
        due("2 drifts round", x.of(2, 0), 0);
        due("3 stays", x.of(3, 0), 2);
        due("hour(13)", x.hour(13), 2);
        due("0", x.of(0, 0), 1);
        due("1 does not drift", x.of(1, 0), 1);
        due("2 drifts without its bit", x.of(2, 0), 1);
        due("hour(2)", x.hour(2), 3);
        due("1 drifts by its bit", x.of(1, 0), 2);
        TrueHeard y = new TrueHeard();
        coast(y, "turn 1 h=0;turn 99 h=1;drift 1 h=1&s=1");
        things(y, 0, 1);
        y.hour(15);
        due("HOUR as it is", y.of(0, 0) * 10 + y.of(1, 0), 12);
        y.hour(15);
        due("TURNS modulo 4 and a drift", y.of(0, 0) * 10 + y.of(1, 0), 11);
        TrueHeard z = new TrueHeard();
        hours(z, 998);
        due("to 999", z.hour(0), 999);
        due("at 999", z.hour(0), STATE);
        due("BAD ahead of STATE", z.hour(16), BAD);
        due("now()", z.now(), 999);
    }

    private static void promise13() {
        TrueHeard x = sea();
        things(x, 0, 0, 0, 1);
        x.way(0, 0, 2, 0);
        x.way(0, 0, 3, 0);
        x.way(0, 0, 0, 0);
        x.way(6, 0, 6, 0);
        saying(x, "b=1");
        saying(x, "b>0&a=2|c=3&b=3");
        saying(x, "h=2&d=1");
        odds(x, 0, 0, 1, 2);
        odds(x, 0, 1, 3, 8);
        odds(x, 0, 2, 0, 1);
        odds(x, 1, 0, 3, 4);
        odds(x, 1, 1, 1, 8);
        odds(x, 2, 0, 1, 1);
        odds(x, 2, 1, 0, 1);
        x.heed(1, 1);
        odds(x, 0, 2, 0, 1);
        due("no SAYING", x.odds(3, 0, 0), NO);
        due("no SAYING -1", x.odds(-1, 0, 0), NO);
        due("no WAY", x.odds(0, 4, 0), NO);
        due("no WAY -1", x.odds(0, -1, 0), NO);
        due("no part", x.odds(0, 0, 2), NO);
        due("no part -1", x.odds(0, 0, -1), NO);
        due("nothing changed", x.of(0, 0) + x.now(), 0);
        TrueHeard y = tide();
        saying(y, "a=3&h=3|a=1&h=2");
        odds(y, 0, 0, 1, 1);
        odds(y, 0, 1, 1, 1);
        longestOdds();
    }

    /** 12 HOURS of even odds for all four: each STATE's odds are 1 of 4 but for a little. */
    private static void longestOdds() {
        TrueHeard x = new TrueHeard();
        coast(x, "drift 1 k=9");
        things(x, 0, 0, 0, 0);
        x.way(6, 0, 6, 99);
        x.bribe(0, 6);
        saying(x, "a=0");
        saying(x, "a=0&b=0&c=0&d=0");
        saying(x, "a=1&b=1&c=1&d=1");
        // of 12: 0, 4, 8 or 12 drift: 1 + 495 + 495 + 1 of 4096; 1, 5 or 9: 12 + 792 + 220.
        odds(x, 0, 0, 31, 128);
        odds(x, 1, 0, 31L * 31 * 31 * 31, 1L << 28);
        odds(x, 2, 0, 1, 256);
        due("the largest worth", x.worth(1, 0, 99, 0, 0), 99L * 31 * 31 * 31 * 31 - (99L << 28));
        due("the least worth", x.worth(1, 0, 0, 99, 1), 1L << 28);
        saying(x, "a=0|!(b=3&c=3&d=3)|a=3");
        // not so: a is 1 (1024 of 4096) or 2 (66 + 924 + 66 of 4096), the others 3 (220 + 792 + 12 of 4096 each).
        odds(x, 3, 0, 8192 - 65, 8192);
    }

    private static void promise14() {
        TrueHeard x = sea();
        things(x, 0, 0);
        x.way(0, 0, 2, 0);
        saying(x, "a=2");
        saying(x, "b=3");
        saying(x, "b<2");
        saying(x, "b<3&h=2");
        due("surely", x.sure(0, 0), 2);
        due("never", x.sure(1, 0), 0);
        due("may be", x.sure(2, 0), 1);
        due("surely, whatever drifts", x.sure(3, 0), 2);
        due("no SAYING", x.sure(4, 0), NONE);
        due("no SAYING -1", x.sure(-1, 0), NONE);
        due("no WAY", x.sure(0, 1), NONE);
        due("no WAY -1", x.sure(0, -1), NONE);
    }

    private static void promise15() {
        TrueHeard x = sea();
        things(x, 3, 3, 3, 3);
        x.way(0, 0, 2, 0);
        x.way(0, 0, 0, 0);
        x.way(0, 0, 3, 0);
        due("turns", x.tell(0, 0), 2);
        due("drifts", x.tell(1, 0), 8 + 1 + 2);
        due("drifts surely", x.tell(2, 0), 2);
        due("stays", x.tell(3, 0), 8);
        due("at once", x.tell(1, 1), 8);
        due("any", x.tell(1, 2), 15);
        x.heed(3, 0);
        due("not by HEED", x.tell(3, 0), 8);
        TrueHeard y = tide();
        due("each HOUR as it will be", y.tell(0, 0), 1 << 3);
        due("the last one does not count", y.tell(0, 1), 1 << 1);
        due("no THING", x.tell(4, 0), NONE);
        due("no THING -1", x.tell(-1, 0), NONE);
        due("no WAY", x.tell(0, 3), NONE);
        due("no WAY -1", x.tell(0, -1), NONE);
    }

    private static void promise16() {
        TrueHeard x = sea();
        things(x, 0, 0);
        saying(x, "b=1");
        saying(x, "a=3");
        due("no WAYS", x.which(0), -5);
        due("NONE ahead of -5", x.which(2), NONE);
        x.way(0, 0, 0, 0);
        due("one without odds", x.which(0), 0);
        x.way(0, 0, 1, 50);
        due("the most odds, though dear", x.which(0), 1);
        x.way(0, 0, 2, 49);
        due("as likely, costs less", x.which(0), 2);
        x.way(1, 0, 3, 45);
        due("as likely, costs 45 and 5: not less", x.which(0), 2);
        x.way(1, 0, 3, 43);
        due("as likely, costs 43 and 5", x.which(0), 4);
        due("none likely: the cheapest", x.which(1), 0);
        due("which(-1)", x.which(-1), NONE);
        TrueHeard y = new TrueHeard();
        saying(y, "h<0");
        y.way(0, 0, 0, 7);
        y.way(4, 2, 0, 5);
        y.way(0, 0, 0, 7);
        due("alike: the least number", y.which(0), 0);
        y.way(4, 1, 0, 5);
        due("a toll counts", y.which(0), 3);
    }

    private static void promise17() {
        TrueHeard x = sea();
        things(x, 0, 0);
        x.way(0, 0, 2, 2);
        x.way(1, 0, 4, 94);
        saying(x, "b>0");
        due("3/4 of 10, 1/4 of 4, 2", x.worth(0, 0, 10, 4, 0), 9);
        due("below", x.worth(0, 0, 10, 4, 1), 2);
        due("whole", x.worth(0, 0, 4, 0, 0), 1);
        due("whole, below", x.worth(0, 0, 4, 0, 1), 1);
        due("nothing", x.worth(0, 0, 4, 4, 0), 0);
        due("nothing, below", x.worth(0, 0, 4, 4, 1), 1);
        due("loss", x.worth(0, 0, 0, 99, 0), -107);
        due("loss, below", x.worth(0, 0, 0, 99, 1), 4);
        due("dear: 3/4 of 99, 94 and 5", x.worth(0, 1, 99, 0, 0), -99);
        due("dear, below", x.worth(0, 1, 99, 0, 1), 4);
        due("no SAYING", x.worth(1, 0, 0, 0, 0), NO);
        due("no SAYING -1", x.worth(-1, 0, 0, 0, 0), NO);
        due("no WAY", x.worth(0, 2, 0, 0, 0), NO);
        due("no WAY -1", x.worth(0, -1, 0, 0, 0), NO);
        due("w 100", x.worth(0, 0, 100, 0, 0), NO);
        due("w -1", x.worth(0, 0, -1, 0, 0), NO);
        due("f 100", x.worth(0, 0, 0, 100, 0), NO);
        due("f -1", x.worth(0, 0, 0, -1, 0), NO);
        due("part 2", x.worth(0, 0, 0, 0, 2), NO);
        due("part -1", x.worth(0, 0, 0, 0, -1), NO);
    }

    private static void promise18() {
        TrueHeard x = sea();
        things(x, 0, 0);
        x.way(0, 0, 1, 0);
        x.way(6, 0, 6, 0);
        x.bribe(1, 6);
        saying(x, "a=3");
        saying(x, "h=7");
        saying(x, "b=3");
        saying(x, "h=8");
        saying(x, "h=6&a=2");
        due("two more", x.sit(0, 0), 2);
        due("six more", x.sit(1, 0), 6);
        due("never surely", x.sit(2, 0), -5);
        due("seven more", x.sit(3, 0), -5);
        due("h and a together", x.sit(4, 0), 5);
        due("18 HOURS from now", x.sit(4, 1), 6);
        due("what it SITS stays", x.at(1, 6), 6);
        due("no SAYING", x.sit(5, 0), NONE);
        due("no SAYING -1", x.sit(-1, 0), NONE);
        due("no WAY", x.sit(0, 2), NONE);
        due("no WAY -1", x.sit(0, -1), NONE);
        TrueHeard y = new TrueHeard();
        y.way(0, 0, 0, 0);
        saying(y, "a=9");
        due("at once, no THINGS", y.sit(0, 0), 0);
    }

    private static void promise19() {
        TrueHeard x = new TrueHeard();
        x.way(0, 0, 3, 0);
        x.way(2, 2, 2, 0);
        x.way(3, 0, 6, 0);
        due("a BOAT now", x.catches(0, 1, 0), 1);
        due("a BOAT an HOUR later: 1, 2 and 2", x.catches(0, 1, 1), 0);
        due("two HOURS later: 2 and 2", x.catches(0, 1, 2), 0);
        due("the RUNNER just in time: 3 and 3", x.catches(2, 0, 3), 1);
        due("the RUNNER late", x.catches(2, 0, 4), 0);
        due("itself", x.catches(0, 0, 0), 1);
        due("itself later", x.catches(0, 0, 1), 0);
        due("a FIRE at 6: 6 and 1", x.catches(2, 2, 6), 0);
        x.hour(0);
        due("a FIRE at 6: 5 and 1", x.catches(2, 2, 5), 1);
        due("a FIRE at 5: 4 and 6", x.catches(2, 2, 4), 0);
        due("n -1", x.catches(0, 1, -1), BAD);
        due("n 7", x.catches(0, 1, 7), BAD);
        due("no first one", x.catches(3, 0, 7), NONE);
        due("no first one -1", x.catches(-1, 0, 0), NONE);
        due("no second one", x.catches(0, 3, -1), NONE);
        due("no second one -1", x.catches(0, -1, 0), NONE);
    }

    private static void promise20() {
        TrueHeard x = sea();
        due("HOURS, no WAYS", x.all(0), 0);
        due("COSTS, no WAYS", x.all(1), 0);
        x.way(1, 0, 6, 10);
        x.way(0, 0, 2, 20);
        x.way(4, 7, 5, 1);
        due("HOURS", x.all(0), 3);
        due("COSTS: 10 and 5, 20, 1 and 7", x.all(1), 43);
        x.way(3, 0, 5, 0);
        due("a FIRE by day", x.all(0), 5);
        hours(x, 6);
        due("a FIRE by night", x.all(0), 3);
        due("all(2)", x.all(2), NONE);
        due("all(-1)", x.all(-1), NONE);
    }

    private static void promise21() {
        TrueHeard x = sea();
        x.way(0, 0, 2, 0);
        saying(x, "a=3");
        saying(x, "b=1");
        saying(x, "b<3&c>0");
        saying(x, "a=9");
        saying(x, "a=3&d=2");
        begins(x, 3, 1, 0);
        begins(x, 0, 0, -5);
        x.thing(0);
        begins(x, 0, 1, 1);
        begins(x, 3, 0, -5);
        x.thing(0);
        begins(x, 0, 4, 1);
        begins(x, 1, 0, -5);
        x.thing(0);
        // b is 0 now, c not 2: a any.
        begins(x, 2, 12, 0);
        x.thing(0);
        begins(x, 4, 16, 1 + 2 * 64);
        x.put(0, 3);
        x.put(3, 1);
        begins(x, 4, 16, 1 + 2 * 64);
        due("what 2", x.begin(0, 0, 2), NONE);
        due("what -1", x.begin(0, 0, -1), NONE);
        due("no SAYING", x.begin(5, 0, 0), NONE);
        due("no SAYING -1", x.begin(-1, 0, 0), NONE);
        due("no WAY", x.begin(0, 1, 0), NONE);
        due("no WAY -1", x.begin(0, -1, 0), NONE);
        TrueHeard y = new TrueHeard();
        coast(y, "turn 1 h=1;turn 2 s=3");
        y.way(0, 0, 1, 0);
        y.thing(0);
        saying(y, "a=1");
        begins(y, 0, 2, 1);
        y.hour(0);
        begins(y, 0, 1, 0);
    }

    private static void promise22() {
        TrueHeard x = sea();
        due("no THING", x.heed(0, 0), NONE);
        due("none does", x.heed(-1, 77), 1);
        things(x, 0, 0);
        x.way(0, 0, 1, 0);
        saying(x, "a=1");
        due("heed(0, 3)", x.heed(0, 3), 1);
        self(x, 1, 0, 1);
        due("state 4", x.heed(1, 4), BAD);
        due("state -1", x.heed(1, -1), BAD);
        due("no THING 2", x.heed(2, 4), NONE);
        due("no THING -2", x.heed(-2, 0), NONE);
        self(x, 1, 0, 1);
        due("another one in its place", x.heed(1, 2), 1);
        self(x, 1, 1, 1);
        x.heed(0, 3);
        due("none again", x.heed(-1, -9), 1);
        self(x, 1, 1, 1);
        due("nothing is heard yet", x.of(0, 0) + x.of(1, 0), 0);
    }

    private static void promise23() {
        TrueHeard x = sea();
        things(x, 0, 0);
        x.way(0, 0, 2, 0);
        saying(x, "a=2&b<2|a=1&b>0");
        self(x, 0, 3, 4);
        self(x, 1, 3, 4);
        self(x, 2, 3, 4);
        x.heed(0, 1);
        self(x, 0, 3, 4);
        self(x, 1, 3, 4);
        self(x, 2, 1, 2);
        x.heed(1, 3);
        self(x, 1, 0, 1);
        self(x, 2, 0, 1);
        x.heed(1, 0);
        self(x, 1, 1, 1);
        self(x, 2, 3, 4);
        due("what 3", x.self(0, 0, 3, 0), NO);
        due("what -1", x.self(0, 0, -1, 0), NO);
        due("part 2", x.self(0, 0, 0, 2), NO);
        due("part -1", x.self(0, 0, 0, -1), NO);
        due("no SAYING", x.self(1, 0, 0, 0), NO);
        due("no SAYING -1", x.self(-1, 0, 0, 0), NO);
        due("no WAY", x.self(0, 1, 0, 0), NO);
        due("no WAY -1", x.self(0, -1, 0, 0), NO);
    }

    private static void promise24() {
        TrueHeard x = sea();
        due("no THING", x.back(0, 0, 0), NONE);
        things(x, 0, 0, 0);
        due("now", x.back(1, 2, 0), 4);
        due("drifts", x.back(1, 2, 1), 4 + 2);
        due("drifts round", x.back(1, 0, 2), 1 + 8 + 4);
        due("turns", x.back(0, 1, 6), 8);
        due("drifts surely", x.back(2, 1, 3), 4);
        due("state 4", x.back(0, 4, 0), BAD);
        due("state -1", x.back(0, -1, 0), BAD);
        due("m 7", x.back(0, 0, 7), BAD);
        due("m -1", x.back(0, 0, -1), BAD);
        due("no THING 3", x.back(3, 4, 7), NONE);
        due("no THING -1", x.back(-1, 0, 0), NONE);
        TrueHeard y = new TrueHeard();
        coast(y, "turn 1 s<2&h=0;turn 3 s=3&h=1");
        y.thing(0);
        due("two to one", y.back(0, 2, 1), 2 + 4);
        due("none to it", y.back(0, 0, 1), 0);
        y.hour(0);
        due("HOUR as it is", y.back(0, 2, 1), 4 + 8);
    }

    private static void promise25() {
        TrueHeard x = new TrueHeard();
        for (int i = 1; i <= 12; i++) {
            due("row", x.row(i % 4), i);
        }
        due("a 13th", x.row(0), FULL);
        due("BAD ahead of FULL", x.row(4), BAD);
        due("row(-2)", x.row(-2), BAD);
        due("row(MIN)", x.row(MIN), BAD);
        due("12 of them", x.count(4), 12);
        due("row(-1)", x.row(-1), 0);
        due("none", x.count(4), 0);
        due("row(3)", x.row(3), 1);
    }

    private static void promise26() {
        TrueHeard x = new TrueHeard();
        due("no THING 0", x.looked(), STATE);
        x.row(1);
        due("no THING 0, with a ROW", x.looked(), STATE);
        coast(x, "turn 1 t=0&h=1;drift 1 t=0&h=2;drift 2 t=0&h=3&s=2;turn 3 t=1");
        things(x, 0, 0);
        rows(x, -5);
        rows(x, -5, 0);
        rows(x, 0, 1);
        rows(x, -5, 0, 0, 1);
        rows(x, 1, 0, 1);
        rows(x, 2, 0, 0, 0);
        rows(x, -5, 0, 0, 1, 1, 1);
        rows(x, -5, 0, 0, 1, 2, 3, 3);
        rows(x, 4, 0, 0, 1, 2, 2);
        rows(x, 4, 0, 0, 1, 1, 2, 0);
        rows(x, 11, 0, 0, 1, 2, 3, 3, 3, 3, 3, 3, 3, 2);
        rows(x, -5, 0, 0, 1, 2, 3, 3, 3, 3, 3, 3, 3, 3);
        x.hour(0);
        rows(x, -5, 0, 1, 2, 3);
        x.put(0, 3);
        rows(x, 0, 0, 1, 2, 3);
        rows(tide(), -5, 0, 0, 1, 3, 3);
        rows(tide(), 2, 0, 0, 2);
    }

    private static void promise27() {
        TrueHeard x = new TrueHeard();
        due("no WAY", x.act(0, 0, 5), 0);
        x.way(0, 4, 0, 0);
        x.way(4, 3, 0, 0);
        x.way(5, 5, 0, 0);
        x.way(6, 1, 0, 0);
        x.way(1, 2, 0, 0);
        due("RUNNER sends", x.act(0, 0, 5), 5);
        due("RUNNER takes", x.act(0, 1, 5), 1);
        due("RUNNER tells", x.act(0, 2, 5), 2);
        due("TOLLED sends", x.act(1, 0, 5), 16);
        due("TOLLED takes", x.act(1, 1, 5), 13);
        due("TOLLED tells", x.act(1, 2, 5), 27);
        due("TOWED sends", x.act(2, 0, 10), 14);
        due("TOWED takes", x.act(2, 1, 10), -9);
        due("TOWED tells", x.act(2, 2, 10), -18);
        due("BRIBED sends", x.act(3, 0, 7), 10);
        due("BRIBED takes", x.act(3, 1, 7), 10);
        due("BRIBED tells", x.act(3, 2, 7), 19);
        due("BELL tells", x.act(4, 2, 7), 46);
        due("wraps by * 3", x.act(4, 0, 1 << 30), -(1 << 30) + 4);
        due("wraps by +", x.act(3, 0, MAX), MIN + 2);
        due("wraps by -", x.act(0, 1, MIN), MAX - 3);
        due("wraps by * 2", x.act(0, 2, MIN + 4), 0);
        due("wraps by x - 1", x.act(1, 2, MIN), 2 * (3 * MAX - 2) + 7);
        due("no act 3", x.act(0, 3, 5), 0);
        trace(x);
        x.act(0, 0, 5);
        due("no act -1", x.act(0, -1, 5), 0);
        trace(x);
        x.act(0, 0, 5);
        due("no WAY 5", x.act(5, 0, 5), 0);
        trace(x);
        x.act(0, 0, 5);
        due("no WAY -1", x.act(-1, 0, 5), 0);
        trace(x);
        TrueHeard y = new TrueHeard();
        y.way(0, 0, 0, 0);
        y.way(2, 7, 0, 0);
        y.way(3, 6, 0, 0);
        due("BOAT sends", y.act(1, 0, 3), 4);
        due("BOAT takes", y.act(1, 1, 3), 3);
        due("BOAT tells", y.act(1, 2, 3), 6);
        due("FIRE takes", y.act(2, 1, 3), -1);
        due("FIRE tells", y.act(2, 2, 3), -2 ^ 7);
    }

    private static void promise28() {
        TrueHeard x = new TrueHeard();
        due("no TRACE", x.trace(0), NONE);
        for (int kind = 0; kind < 5; kind++) {
            x.way(kind, 3, 0, 0);
        }
        x.act(0, 2, 1);
        trace(x, 3, 2, 1);
        x.act(0, 0, 1);
        trace(x, 1);
        x.act(1, 2, 1);
        trace(x, 3, 2, 11, 1);
        x.act(2, 2, 1);
        trace(x, 3, 21, 2, 1);
        x.act(3, 2, 1);
        trace(x, 31, 3, 2, 1);
        x.act(4, 2, 1);
        trace(x, 41, 3, 2, 11, 1, 11, 1);
        due("trace(-1)", x.trace(-1), NONE);
        due("trace(MAX)", x.trace(MAX), NONE);
        due("trace(MIN)", x.trace(MIN), NONE);
        due("trace(20)", x.trace(20), NONE);
        TrueHeard y = new TrueHeard();
        y.way(5, 0, 0, 0);
        y.way(6, 0, 0, 0);
        y.act(0, 2, 1);
        trace(y, 3, 21, 2, 51, 1);
        y.act(1, 2, 1);
        trace(y, 31, 3, 61, 2, 1);
        y.act(1, 1, 1);
        trace(y, 61, 2, 1);
    }

    private static void promise29() {
        // A row a KIND that the WAY is of, a column a KIND that it is taken for.
        String[] under = {"1000000", "1100000", "1010000", "1001000", "1100100", "1010010", "1001001"};
        for (int kind = 0; kind < 7; kind++) {
            TrueHeard x = new TrueHeard();
            due("no WAY", x.as(0, kind), NONE);
            x.way(kind, kind + 2, 0, 0);
            for (int k = 0; k < 7; k++) {
                due("a " + kind + " taken for a " + k, x.as(0, k), under[kind].charAt(k) == '1' ? kind + 2 : -6);
            }
            due("k 7", x.as(0, 7), NONE);
            due("k -1", x.as(0, -1), NONE);
            due("no WAY 1", x.as(1, 0), NONE);
            due("no WAY -1", x.as(-1, 0), NONE);
        }
    }

    private static TrueHeard whole() {
        TrueHeard x = sea();
        things(x, 1, 0);
        x.way(6, 3, 2, 5);
        x.bribe(0, 1);
        x.way(1, 1, 4, 9);
        saying(x, "a=1");
        x.heed(0, 2);
        x.row(1);
        x.row(2);
        x.hour(0);
        feed(x, "b=0");
        return x;
    }

    private static void change(TrueHeard x) {
        feed(x, "|a=2");
        x.saying();
        coast(x, "turn 3 t<9;dear 9 k<7");
        feed(x, "b");
        x.thing(3);
        x.put(0, 0);
        x.way(2, 0, 0, 0);
        x.bribe(0, 6);
        x.heed(1, 1);
        x.row(-1);
        x.row(3);
        x.row(3);
        x.row(3);
        x.hour(15);
    }

    private static void isWhole(TrueHeard x) {
        counts(x, 2, 2, 1, 1, 2, 3);
        due("HOUR", x.now(), 1);
        due("STATE of 0", x.of(0, 0), 2);
        due("STATE of 1", x.of(1, 0), 0);
        due("TURNS", x.of(0, 1), 1);
        due("no THING 2", x.of(2, 0), NONE);
        due("SITS", x.at(0, 6), 1);
        due("COSTS", x.at(1, 5), 14);
        due("no WAY 2", x.at(2, 0), NONE);
        due("no SAYING 1", x.sure(1, 0), NONE);
        due("SELF ahead", x.self(0, 0, 0, 0), 1);
        due("SELF behind", x.self(0, 0, 1, 0), 0);
        due("LOOKED at", x.looked(), 0);
        x.put(0, 1);
        due("LOOKED at, put", x.looked(), -5);
        x.put(0, 2);
    }

    private static void promise30() {
        TrueHeard x = new TrueHeard();
        due("of nothing", x.image(), 0);
        x.thing(1);
        due("image()", x.image(), 1);
        x.thing(1);
        due("the latest one", x.undo(), 1);
        x.act(0, 0, 0);
        TrueHeard y = whole();
        due("image() of a whole", y.image(), 2);
        isWhole(y);
        change(y);
        y.image();
        due("the change is in it", y.undo(), 3);
        due("HOUR", y.now(), 2);
    }

    private static void promise31() {
        TrueHeard x = new TrueHeard();
        due("none", x.undo(), STATE);
        x.image();
        due("of a new one", x.undo(), 0);
        TrueHeard y = whole();
        isWhole(y);
        y.image();
        change(y);
        y.act(1, 0, 1);
        due("undo()", y.undo(), 2);
        isWhole(y);
        trace(y, 11, 1);
        due("the TAPE is as it was", y.saying(), 1);
        due("b=0", y.begin(1, 1, 0), 0);
        change(y);
        due("THE IMAGE stays", y.undo(), 2);
        isWhole(y);
        coast(y, "x");
        y.undo();
        hours(y, 5);
        y.undo();
        isWhole(y);
    }

    private static void promise32() {
        TrueHeard x = whole();
        counts(x, 2, 2, 1, 1, 2, 3, 0);
        x.act(0, 2, 0);
        counts(x, 2, 2, 1, 1, 2, 3, 5);
        due("count(7)", x.count(7), NONE);
        due("count(-1)", x.count(-1), NONE);
        due("count(MIN)", x.count(MIN), NONE);
        x.coast();
        counts(x, 2, 2, 1, 1, 2, 0, 5);
    }

    public static void main(String[] args) {
        Runnable[] promises = {
            PromisesTest::promise1, PromisesTest::promise2, PromisesTest::promise3, PromisesTest::promise4,
            PromisesTest::promise5, PromisesTest::promise6, PromisesTest::promise7, PromisesTest::promise8,
            PromisesTest::promise9, PromisesTest::promise10, PromisesTest::promise11, PromisesTest::promise12,
            PromisesTest::promise13, PromisesTest::promise14, PromisesTest::promise15, PromisesTest::promise16,
            PromisesTest::promise17, PromisesTest::promise18, PromisesTest::promise19, PromisesTest::promise20,
            PromisesTest::promise21, PromisesTest::promise22, PromisesTest::promise23, PromisesTest::promise24,
            PromisesTest::promise25, PromisesTest::promise26, PromisesTest::promise27, PromisesTest::promise28,
            PromisesTest::promise29, PromisesTest::promise30, PromisesTest::promise31, PromisesTest::promise32,
        };
        int promise = 0;
        for (Runnable one : promises) {
            promise++;
            about("promise " + promise);
            one.run();
        }
        end();
    }
}
