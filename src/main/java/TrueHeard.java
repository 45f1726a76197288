import java.util.Arrays;

/** What is so when word of it is heard: things that change hour by hour, and ways by which word goes. */
public final class TrueHeard {
    public static final int NONE = -1, BAD = -2, STATE = -3, FULL = -4;
    public static final long NO = Long.MIN_VALUE;

    private static final int BY_NONE = -5, OTHER_KIND = -6, FAULT = -10;

    private static final int THINGS = 4, WAYS = 5, SAYINGS = 5, COASTS = 5, CLAUSES = 10;
    private static final int SIGNS = 100, TOLD = 12, KEPT = 20, OPEN = 5;
    private static final int STATES = 4, ROWS = 256, LAST_HOUR = 999, LATER = 6, MOST = 99;

    private static final int RUNNER = 0, BELL = 1, BOAT = 2, FIRE = 3, TOLLED = 4, TOWED = 5, BRIBED = 6;

    /** SELF just ahead of HEED, just behind it, both. */
    private static final int AHEAD = 0, BEHIND = 1, BOTH = 2;

    /**
     * One THING's chances are counted in parts of 2 to the power of 12, as no word takes more than 12 HOURS
     * and an HOUR halves a chance once at most; so those of four THINGS together in parts of 2 to the power of 48.
     */
    private static final int HALVINGS = 12, ALL_HALVINGS = HALVINGS * THINGS;
    private static final long ALL_PARTS = 1L << ALL_HALVINGS;

    private final World world = new World();
    private final World image = new World();
    private final Reader reader = new Reader(world);
    private final Trace trace = new Trace();
    private final long[] chances = new long[THINGS];
    private final boolean[] fails = new boolean[ROWS];
    private boolean imaged;

    public TrueHeard() {
    }

    // ---- coasts, things, ways, sayings

    public int feed(int sign) {
        if (sign < 0 || sign > 127) {
            return BAD;
        }
        if (world.signs >= world.tape.length) {
            return FULL;
        }
        world.tape[world.signs] = (byte) sign;
        world.signs++;
        return world.signs;
    }

    public int coast() {
        if (world.coasts >= COASTS) {
            return FULL;
        }
        Clause[] coast = reader.readCoast();
        world.signs = 0;
        if (coast == null) {
            return FAULT - reader.place;
        }
        world.coast = coast;
        world.coasts++;
        return world.coasts - 1;
    }

    public int saying() {
        if (world.sayingCount >= world.sayings.length) {
            return FULL;
        }
        Clause saying = reader.readSaying();
        world.signs = 0;
        if (saying == null) {
            return FAULT - reader.place;
        }
        world.sayings[world.sayingCount] = saying;
        world.sayingCount++;
        return world.sayingCount - 1;
    }

    public int thing(int state) {
        if (!isState(state)) {
            return BAD;
        }
        if (world.things >= THINGS) {
            return FULL;
        }
        world.things++;
        world.states = withState(world.states, world.things - 1, state);
        return world.things - 1;
    }

    public int put(int thing, int n) {
        if (!world.hasThing(thing)) {
            return NONE;
        }
        if (!isState(n)) {
            return BAD;
        }
        int before = stateIn(world.states, thing);
        world.states = withState(world.states, thing, n);
        return before;
    }

    public int of(int thing, int what) {
        if (!world.hasThing(thing)) {
            return NONE;
        }
        int state = stateIn(world.states, thing);
        int facts = factsOfThing(thing, state, world.hour);
        switch (what) {
            case 0: return state;
            case 1: return world.together(Clause.TURN, facts);
            case 2: return world.together(Clause.DRIFT, facts);
            default: return NONE;
        }
    }

    public int way(int kind, int v, int hours, int cost) {
        if (!isKind(kind)) {
            return NONE;
        }
        if (v < 0 || v > 9 || hours < 0 || hours > 6 || cost < 0 || cost > MOST) {
            return BAD;
        }
        if (world.wayCount >= world.ways.length) {
            return FULL;
        }
        world.ways[world.wayCount] = newWay(kind, v, hours, cost);
        world.wayCount++;
        return world.wayCount - 1;
    }

    private Runner newWay(int kind, int v, int hours, int cost) {
        int number = world.wayCount;
        switch (kind) {
            case BELL: return new Bell(kind, number, v, hours, cost, trace);
            case BOAT: return new Boat(kind, number, v, hours, cost, trace);
            case FIRE: return new Fire(kind, number, v, hours, cost, trace);
            case TOLLED: return new Tolled(kind, number, v, hours, cost, trace);
            case TOWED: return new Towed(kind, number, v, hours, cost, trace);
            case BRIBED: return new Bribed(number, v, hours, cost, 0, trace);
            default: return new Runner(RUNNER, number, v, hours, cost, trace);
        }
    }

    public int at(int way, int what) {
        Runner runner = world.wayAt(way);
        if (runner == null) {
            return NONE;
        }
        switch (what) {
            case 0: return runner.kind;
            case 1: return runner.v;
            case 2: return runner.hours;
            case 3: return runner.cost;
            case 4: return runner.hoursFrom(world.hour);
            case 5: return world.costs(runner);
            case 6: return runner.hoursSat();
            default: return NONE;
        }
    }

    public int bribe(int way, int n) {
        Runner runner = world.wayAt(way);
        if (runner == null) {
            return NONE;
        }
        if (n < 0 || n > LATER) {
            return BAD;
        }
        if (!(runner instanceof Bribed)) {
            return STATE;
        }
        // THE IMAGE holds the same WAYS: another one comes in its place, so that none ever changes.
        world.replaceWay(way, new Bribed(runner.number, runner.v, runner.hours, runner.cost, n, trace));
        return runner.hoursSat();
    }

    public int now() {
        return world.hour;
    }

    public int hour(int bits) {
        if (bits < 0 || bits > 15) {
            return BAD;
        }
        if (world.hour >= LAST_HOUR) {
            return STATE;
        }
        int row = 0;
        for (int thing = 0; thing < world.things; thing++) {
            int state = stateIn(world.states, thing);
            int facts = factsOfThing(thing, state, world.hour);
            int drift = world.together(Clause.DRIFT, facts);
            boolean drifts = drift == 2 || drift == 1 && (bits >> thing & 1) == 1;
            row = withState(row, thing, state + world.together(Clause.TURN, facts) + (drifts ? 1 : 0));
        }
        world.states = row;
        world.hour++;
        return world.hour;
    }

    // ---- heard; part 0 above, 1 below the line

    public long odds(int saying, int way, int part) {
        return self(saying, way, AHEAD, part);
    }

    public int sure(int saying, int way) {
        Clause clause = world.sayingAt(saying);
        Runner runner = world.wayAt(way);
        if (clause == null || runner == null) {
            return NONE;
        }
        long parts = partsSo(clause, runner, AHEAD);
        if (parts == ALL_PARTS) {
            return 2;
        }
        return parts == 0 ? 0 : 1;
    }

    public int tell(int thing, int way) {
        Runner runner = world.wayAt(way);
        if (!world.hasThing(thing) || runner == null) {
            return NONE;
        }
        int reach = world.reach(thing, runner.hoursFrom(world.hour));
        return reached(reach, stateIn(world.states, thing));
    }

    public int which(int saying) {
        Clause clause = world.sayingAt(saying);
        if (clause == null) {
            return NONE;
        }
        int best = BY_NONE;
        long most = 0;
        int least = 0;
        for (int way = 0; way < world.wayCount; way++) {
            Runner runner = world.wayAt(way);
            if (runner != null) {
                long parts = partsSo(clause, runner, AHEAD);
                int costs = world.costs(runner);
                if (best == BY_NONE || parts > most || parts == most && costs < least) {
                    best = way;
                    most = parts;
                    least = costs;
                }
            }
        }
        return best;
    }

    public long worth(int saying, int way, int w, int f, int part) {
        Clause clause = world.sayingAt(saying);
        Runner runner = world.wayAt(way);
        if (clause == null || runner == null || w < 0 || w > MOST || f < 0 || f > MOST || !isPart(part)) {
            return NO;
        }
        long parts = partsSo(clause, runner, AHEAD);
        return partOf(w * parts - f * (ALL_PARTS - parts) - world.costs(runner) * ALL_PARTS, part);
    }

    public int sit(int saying, int way) {
        Clause clause = world.sayingAt(saying);
        Runner runner = world.wayAt(way);
        if (clause == null || runner == null) {
            return NONE;
        }
        int takes = runner.hoursFrom(world.hour);
        for (int later = 0; later <= LATER; later++) {
            markFails(clause, takes + later);
            if (!failsFrom(world.states)) {
                return later;
            }
        }
        return BY_NONE;
    }

    public int catches(int one, int other, int n) {
        Runner first = world.wayAt(one);
        Runner second = world.wayAt(other);
        if (first == null || second == null) {
            return NONE;
        }
        if (n < 0 || n > LATER) {
            return BAD;
        }
        return n + second.hoursFrom(world.hour + n) <= first.hoursFrom(world.hour) ? 1 : 0;
    }

    public int all(int what) {
        if (what < 0 || what > 1) {
            return NONE;
        }
        int longest = 0;
        int costs = 0;
        for (int way = 0; way < world.wayCount; way++) {
            Runner runner = world.wayAt(way);
            if (runner != null) {
                longest = Math.max(longest, runner.hoursFrom(world.hour));
                costs += world.costs(runner);
            }
        }
        return what == 0 ? longest : costs;
    }

    public int begin(int saying, int way, int what) {
        Clause clause = world.sayingAt(saying);
        Runner runner = world.wayAt(way);
        if (clause == null || runner == null || what < 0 || what > 1) {
            return NONE;
        }
        markFails(clause, runner.hoursFrom(world.hour));
        int many = 0;
        int least = BY_NONE;
        for (int row = world.rows() - 1; row >= 0; row--) {
            if (!failsFrom(row)) {
                many++;
                least = row;
            }
        }
        return what == 0 ? many : least;
    }

    public int heed(int thing, int state) {
        if (thing != World.NO_THING && !world.hasThing(thing)) {
            return NONE;
        }
        if (thing != World.NO_THING && !isState(state)) {
            return BAD;
        }
        world.heedThing = thing;
        world.heedState = thing == World.NO_THING ? 0 : state;
        return 1;
    }

    public long self(int saying, int way, int what, int part) {
        Clause clause = world.sayingAt(saying);
        Runner runner = world.wayAt(way);
        if (clause == null || runner == null || what < AHEAD || what > BOTH || !isPart(part)) {
            return NO;
        }
        return partOf(partsSo(clause, runner, what), part);
    }

    public int back(int thing, int state, int m) {
        if (!world.hasThing(thing)) {
            return NONE;
        }
        if (!isState(state) || m < 0 || m > LATER) {
            return BAD;
        }
        int reach = world.reach(thing, m);
        int from = 0;
        for (int start = 0; start < STATES; start++) {
            if ((reached(reach, start) >> state & 1) == 1) {
                from |= 1 << start;
            }
        }
        return from;
    }

    /** In how many of ALL_PARTS a SAYING is so when it is HEARD, as SELF tells. */
    private long partsSo(Clause saying, Runner way, int what) {
        int hours = way.hoursFrom(world.hour);
        for (int thing = 0; thing < chances.length; thing++) {
            chances[thing] = world.chances(thing, hours);
        }
        long parts = 0;
        for (int row = 0; row < world.rows(); row++) {
            long likely = partsOfRow(row);
            if (likely != 0 && isSo(saying, row, world.hour + hours, what)) {
                parts += likely;
            }
        }
        return parts;
    }

    private long partsOfRow(int row) {
        long parts = 1;
        for (int thing = 0; thing < chances.length; thing++) {
            parts *= World.chanceIn(chances[thing], stateIn(row, thing));
        }
        return parts;
    }

    private boolean isSo(Clause saying, int row, int hour, int what) {
        if (what != BEHIND && !saying.holds(world.factsOfRow(row, hour))) {
            return false;
        }
        return what == AHEAD || saying.holds(world.factsOfRow(world.heeded(row), hour));
    }

    /** Marks the rows of STATES now from which a SAYING may be not so in so many HOURS. */
    private void markFails(Clause saying, int hours) {
        for (int row = 0; row < world.rows() && row < fails.length; row++) {
            fails[row] = !saying.holds(world.factsOfRow(row, world.hour + hours));
        }
        for (int thing = 0; thing < world.things; thing++) {
            carryBack(thing, world.reach(thing, hours));
        }
    }

    /** From rows with a THING's STATE as it will be to rows with its STATE now: each THING goes by itself. */
    private void carryBack(int thing, int reach) {
        for (int row = 0; row < world.rows(); row++) {
            if (stateIn(row, thing) == 0) {
                int failing = 0;
                for (int state = 0; state < STATES; state++) {
                    failing |= failsFrom(withState(row, thing, state)) ? 1 << state : 0;
                }
                for (int state = 0; state < STATES; state++) {
                    setFails(withState(row, thing, state), (reached(reach, state) & failing) != 0);
                }
            }
        }
    }

    private boolean failsFrom(int row) {
        return row >= 0 && row < fails.length && fails[row];
    }

    private void setFails(int row, boolean fail) {
        if (row >= 0 && row < fails.length) {
            fails[row] = fail;
        }
    }

    /** A part of so many of ALL_PARTS, in lowest terms: below the line there is a power of 2 alone. */
    private static long partOf(long parts, int part) {
        long above = parts;
        long below = ALL_PARTS;
        for (int i = 0; i < ALL_HALVINGS && above % 2 == 0; i++) {
            above /= 2;
            below /= 2;
        }
        return part == 0 ? above : below;
    }

    // ---- rows

    public int row(int state) {
        if (state == -1) {
            world.told = 0;
            world.toldCount = 0;
            return 0;
        }
        if (!isState(state)) {
            return BAD;
        }
        if (world.toldCount >= TOLD) {
            return FULL;
        }
        world.told = withState(world.told, world.toldCount, state);
        world.toldCount++;
        return world.toldCount;
    }

    public int looked() {
        if (!world.hasThing(0)) {
            return STATE;
        }
        int may = 1 << stateIn(world.states, 0);
        for (int i = 0; i < world.toldCount; i++) {
            int state = stateIn(world.told, i);
            if ((may >> state & 1) == 0) {
                return i;
            }
            may = reached(world.step(0, world.hour + i), state);
        }
        return BY_NONE;
    }

    // ---- acts, the image

    public int act(int way, int act, int x) {
        trace.ran = 0;
        Runner runner = world.wayAt(way);
        if (runner == null) {
            return 0;
        }
        switch (act) {
            case 0: return runner.sends(x);
            case 1: return runner.takes(x);
            case 2: return runner.tells(x);
            default: return 0;
        }
    }

    public int trace(int i) {
        if (i < 0 || i >= trace.ran || i >= trace.bodies.length) {
            return NONE;
        }
        return trace.bodies[i];
    }

    public int as(int way, int k) {
        Runner runner = world.wayAt(way);
        if (runner == null || !isKind(k)) {
            return NONE;
        }
        return isOf(runner, k) ? runner.v : OTHER_KIND;
    }

    private static boolean isOf(Runner runner, int kind) {
        switch (kind) {
            case BELL: return runner instanceof Bell;
            case BOAT: return runner instanceof Boat;
            case FIRE: return runner instanceof Fire;
            case TOLLED: return runner instanceof Tolled;
            case TOWED: return runner instanceof Towed;
            case BRIBED: return runner instanceof Bribed;
            default: return true;
        }
    }

    public int image() {
        image.copy(world);
        imaged = true;
        return image.things;
    }

    public int undo() {
        if (!imaged) {
            return STATE;
        }
        world.copy(image);
        return world.things;
    }

    public int count(int what) {
        switch (what) {
            case 0: return world.things;
            case 1: return world.wayCount;
            case 2: return world.sayingCount;
            case 3: return world.coasts;
            case 4: return world.toldCount;
            case 5: return world.signs;
            case 6: return trace.ran;
            default: return NONE;
        }
    }

    private static boolean isState(int n) {
        return n >= 0 && n < STATES;
    }

    private static boolean isKind(int n) {
        return n >= RUNNER && n <= BRIBED;
    }

    private static boolean isPart(int n) {
        return n == 0 || n == 1;
    }

    // A row of STATES is one number: two bits a STATE, the first one lowest, as BEGIN counts them.

    private static int stateIn(int row, int place) {
        return row >> 2 * place & 3;
    }

    private static int withState(int row, int place, int state) {
        return row & ~(3 << 2 * place) | (state & 3) << 2 * place;
    }

    /** Of where a THING may come to, as World.reach tells, that from one STATE, as bits. */
    private static int reached(int reach, int from) {
        return reach >> STATES * from & 15;
    }

    // What a TEST looks at goes as one number: four bits a name, in the order of the Reader's names.

    private static int factsOfThing(int thing, int state, int hour) {
        return thing | state << 4 | hour % 12 << 8 | 9 << 12;
    }

    private static int factsOfWay(int kind, int hour) {
        return 9 | 9 << 4 | hour % 12 << 8 | kind << 12;
    }

    /** All that there is, but THE IMAGE and THE TRACE. */
    private static final class World {
        static final int NO_THING = -1;

        final byte[] tape = new byte[SIGNS];
        int signs;
        Clause[] coast = new Clause[0];
        int coasts;
        final Clause[] sayings = new Clause[SAYINGS];
        int sayingCount;
        final Runner[] ways = new Runner[WAYS];
        int wayCount;
        int things;
        int states;
        int hour;
        int heedThing = NO_THING;
        int heedState;
        int told;
        int toldCount;

        /** COASTS, SAYINGS and WAYS never change once they are made: both may hold the same ones. */
        void copy(World other) {
            System.arraycopy(other.tape, 0, tape, 0, Math.min(other.tape.length, tape.length));
            signs = other.signs;
            coast = other.coast;
            coasts = other.coasts;
            for (int i = 0; i < sayings.length && i < other.sayings.length; i++) {
                sayings[i] = other.sayings[i];
            }
            sayingCount = other.sayingCount;
            for (int i = 0; i < ways.length && i < other.ways.length; i++) {
                ways[i] = other.ways[i];
            }
            wayCount = other.wayCount;
            things = other.things;
            states = other.states;
            hour = other.hour;
            heedThing = other.heedThing;
            heedState = other.heedState;
            told = other.told;
            toldCount = other.toldCount;
        }

        boolean hasThing(int number) {
            return number >= 0 && number < things;
        }

        Clause sayingAt(int number) {
            return number >= 0 && number < sayingCount && number < sayings.length ? sayings[number] : null;
        }

        Runner wayAt(int number) {
            return number >= 0 && number < wayCount && number < ways.length ? ways[number] : null;
        }

        void replaceWay(int number, Runner way) {
            if (number >= 0 && number < ways.length) {
                ways[number] = way;
            }
        }

        /** How many rows of STATES the THINGS could have. */
        int rows() {
            return 1 << 2 * things;
        }

        int heeded(int row) {
            return heedThing == NO_THING ? row : withState(row, heedThing, heedState);
        }

        int factsOfRow(int row, int atHour) {
            int facts = atHour % 12 << 4 * THINGS;
            for (int thing = 0; thing < THINGS; thing++) {
                facts |= (thing < things ? stateIn(row, thing) : 9) << 4 * thing;
            }
            return facts;
        }

        int costs(Runner way) {
            return way.cost + way.toll() + together(Clause.DEAR, factsOfWay(way.kind, hour));
        }

        /** The n of all CLAUSES of a word whose E holds: TURNS, DRIFT, what a WAY COSTS more. */
        int together(int word, int facts) {
            int sum = 0;
            for (Clause clause : coast) {
                if (clause != null && clause.word == word && clause.holds(facts)) {
                    sum += clause.n;
                }
            }
            return word == Clause.DRIFT ? Math.min(2, sum) : sum;
        }

        /** As reach, in the one HOUR that begins then. */
        int step(int thing, int atHour) {
            int reach = 0;
            for (int state = 0; state < STATES; state++) {
                int facts = factsOfThing(thing, state, atHour);
                int to = state + together(Clause.TURN, facts);
                int drift = together(Clause.DRIFT, facts);
                int stays = drift < 2 ? 1 << to % STATES : 0;
                int drifts = drift > 0 ? 1 << (to + 1) % STATES : 0;
                reach |= (stays | drifts) << STATES * state;
            }
            return reach;
        }

        /** Where a THING may come to in so many HOURS from each STATE now: four bits, one a STATE, for each. */
        int reach(int thing, int hours) {
            int reach = 1 | 2 << 4 | 4 << 8 | 8 << 12;
            for (int i = 0; i < hours; i++) {
                int step = step(thing, hour + i);
                int further = 0;
                for (int from = 0; from < STATES; from++) {
                    int may = 0;
                    for (int state = 0; state < STATES; state++) {
                        may |= (reached(reach, from) >> state & 1) == 1 ? reached(step, state) : 0;
                    }
                    further |= may << STATES * from;
                }
                reach = further;
            }
            return reach;
        }

        /** How likely a THING is in each STATE in so many HOURS; one that there is not stays in STATE 0. */
        long chances(int thing, int hours) {
            if (thing >= things) {
                return 1L << HALVINGS;
            }
            long chances = 1L << HALVINGS << 16 * stateIn(states, thing);
            for (int i = 0; i < hours; i++) {
                long next = 0;
                for (int state = 0; state < STATES; state++) {
                    long half = chanceIn(chances, state) / 2;
                    if (half != 0) {
                        int facts = factsOfThing(thing, state, hour + i);
                        int to = state + together(Clause.TURN, facts);
                        int drift = together(Clause.DRIFT, facts);
                        next += half * (2 - drift) << 16 * (to % STATES);
                        next += half * drift << 16 * ((to + 1) % STATES);
                    }
                }
                chances = next;
            }
            return chances;
        }

        static long chanceIn(long chances, int state) {
            return chances >> 16 * state & 0xFFFF;
        }
    }

    /** A CLAUSE, or a SAYING, which has no word: its E as tokens, each operator behind what it is for. */
    private static final class Clause {
        static final int TURN = 0, DRIFT = 1, DEAR = 2, SAYING = 3;
        static final int NOT = 5, AND = 6, OR = 7;

        final int word;
        final int n;
        private final int[] tokens;

        Clause(int word, int n, int[] tokens) {
            this.word = word;
            this.n = n;
            this.tokens = tokens;
        }

        /** With at most 5 of ! and ( open, fewer than 32 truths wait at once: bits of one number hold them. */
        boolean holds(int facts) {
            int truths = 0;
            for (int token : tokens) {
                switch (token & 7) {
                    case NOT:
                        truths ^= 1;
                        break;
                    case AND:
                        truths = truths >> 1 & (truths | ~1);
                        break;
                    case OR:
                        truths = truths >> 1 | truths & 1;
                        break;
                    default:
                        truths = truths << 1 | (passes(token, facts) ? 1 : 0);
                        break;
                }
            }
            return (truths & 1) == 1;
        }

        static int test(int name, int how, int number) {
            return name | how << 3 | number << 5;
        }

        private static boolean passes(int test, int facts) {
            int value = facts >> 4 * (test & 7) & 15;
            int number = test >> 5;
            switch (test >> 3 & 3) {
                case 0: return value < number;
                case 1: return value == number;
                default: return value > number;
            }
        }
    }

    /** Reads COASTS and SAYINGS from THE TAPE. What it can not read is null; place is the FAULT then. */
    private static final class Reader {
        private static final int NO_SIGN = 128;

        private final World world;
        private final Clause[] clauses = new Clause[CLAUSES];
        private final int[] tokens = new int[SIGNS];
        private int tokenCount;
        private String names = "";
        int place;

        Reader(World world) {
            this.world = world;
        }

        Clause[] readCoast() {
            names = "tshk";
            place = 0;
            int count = 0;
            boolean more = true;
            while (more && count < clauses.length) {
                Clause clause = readClause();
                if (clause == null) {
                    return null;
                }
                clauses[count] = clause;
                count++;
                more = count < clauses.length && goOn(';');
            }
            return place == world.signs ? firstClauses(count) : null;
        }

        private Clause[] firstClauses(int count) {
            Clause[] first = new Clause[Math.max(0, count)];
            for (int i = 0; i < first.length && i < clauses.length; i++) {
                first[i] = clauses[i];
            }
            return first;
        }

        Clause readSaying() {
            names = "abcdh";
            place = 0;
            tokenCount = 0;
            return readAny(0) && place == world.signs ? newClause(Clause.SAYING, 0) : null;
        }

        private Clause newClause(int word, int n) {
            return new Clause(word, n, Arrays.copyOf(tokens, Math.max(0, tokenCount)));
        }

        private Clause readClause() {
            tokenCount = 0;
            int word = readWord();
            if (word < 0 || !goOn(' ')) {
                return null;
            }
            int n = readNumber();
            if (n < 0 || !goOn(' ') || !readAny(0)) {
                return null;
            }
            return newClause(word, n);
        }

        private int readWord() {
            if (sign() == 't') {
                return goOnAll("turn") ? Clause.TURN : NONE;
            }
            if (!goOn('d')) {
                return NONE;
            }
            if (sign() == 'r') {
                return goOnAll("rift") ? Clause.DRIFT : NONE;
            }
            return goOnAll("ear") ? Clause.DEAR : NONE;
        }

        /** E: a T's & binds closer than |; from the left or the right on is the same for both. */
        private boolean readAny(int open) {
            boolean more = true;
            for (int ors = 0; more && ors < SIGNS; ors++) {
                if (!readOne(open)) {
                    return false;
                }
                for (int ands = 0; ands < SIGNS && goOn('&'); ands++) {
                    if (!readOne(open)) {
                        return false;
                    }
                    add(Clause.AND);
                }
                if (ors > 0) {
                    add(Clause.OR);
                }
                more = goOn('|');
            }
            return true;
        }

        /** F, so many of ! and ( being open; nothing goes on with a ! or ( too many, as no TEST begins so. */
        private boolean readOne(int open) {
            int within = open;
            while (within < OPEN && goOn('!')) {
                within++;
            }
            boolean read = within < OPEN && goOn('(') ? readAny(within + 1) && goOn(')') : readTest();
            for (int nots = open; nots < within; nots++) {
                add(Clause.NOT);
            }
            return read;
        }

        private boolean readTest() {
            int name = names.indexOf((char) sign());
            if (name < 0) {
                return false;
            }
            place++;
            int how = "<=>".indexOf((char) sign());
            if (how < 0) {
                return false;
            }
            place++;
            int number = readNumber();
            if (number < 0) {
                return false;
            }
            add(Clause.test(name, how, number));
            return true;
        }

        /** A digit too many is left standing: nothing goes on with it. */
        private int readNumber() {
            int first = sign() - '0';
            if (first < 0 || first > 9) {
                return NONE;
            }
            place++;
            int second = sign() - '0';
            if (first == 0 || second < 0 || second > 9) {
                return first;
            }
            place++;
            return first * 10 + second;
        }

        private boolean goOnAll(String signs) {
            for (int i = 0; i < signs.length(); i++) {
                if (!goOn(signs.charAt(i))) {
                    return false;
                }
            }
            return true;
        }

        private boolean goOn(char due) {
            if (sign() != due) {
                return false;
            }
            place++;
            return true;
        }

        private int sign() {
            boolean there = place >= 0 && place < world.signs && place < world.tape.length;
            return there ? world.tape[place] : NO_SIGN;
        }

        private void add(int token) {
            if (tokenCount < tokens.length) {
                tokens[tokenCount] = token;
                tokenCount++;
            }
        }
    }

    /** The bodies that ran in the latest act(), the first ones kept. */
    private static final class Trace {
        final int[] bodies = new int[KEPT];
        int ran;

        void note(int body) {
            if (ran < bodies.length) {
                bodies[ran] = body;
            }
            ran++;
        }
    }

    /** A WAY of any KIND: the others are under this one. */
    private static class Runner {
        final int kind;
        final int number;
        final int v;
        final int hours;
        final int cost;
        final Trace trace;

        Runner(int kind, int number, int v, int hours, int cost, Trace trace) {
            this.kind = kind;
            this.number = number;
            this.v = v;
            this.hours = hours;
            this.cost = cost;
            this.trace = trace;
        }

        /** What it TAKES, sent at an HOUR. */
        int hoursFrom(int hour) {
            return hours;
        }

        int hoursSat() {
            return 0;
        }

        int toll() {
            return 0;
        }

        int sends(int x) {
            trace.note(1);
            return x + number;
        }

        int takes(int x) {
            trace.note(2);
            return sends(x) - v;
        }

        int tells(int x) {
            trace.note(3);
            return takes(x) * 2;
        }
    }

    private static class Bell extends Runner {
        Bell(int kind, int number, int v, int hours, int cost, Trace trace) {
            super(kind, number, v, hours, cost, trace);
        }

        int hoursFrom(int hour) {
            return (hours + 1) / 2;
        }

        int sends(int x) {
            trace.note(11);
            return super.sends(x * 3);
        }
    }

    private static class Boat extends Runner {
        Boat(int kind, int number, int v, int hours, int cost, Trace trace) {
            super(kind, number, v, hours, cost, trace);
        }

        int hoursFrom(int hour) {
            return hours + (hour % 2 == 1 ? v % 3 : 0);
        }

        int takes(int x) {
            trace.note(21);
            return -super.takes(x);
        }
    }

    private static class Fire extends Runner {
        Fire(int kind, int number, int v, int hours, int cost, Trace trace) {
            super(kind, number, v, hours, cost, trace);
        }

        int hoursFrom(int hour) {
            return hour % 12 >= 6 ? 1 : hours;
        }

        int tells(int x) {
            trace.note(31);
            return super.tells(x) ^ 7;
        }
    }

    private static final class Tolled extends Bell {
        Tolled(int kind, int number, int v, int hours, int cost, Trace trace) {
            super(kind, number, v, hours, cost, trace);
        }

        int toll() {
            return v;
        }

        int tells(int x) {
            trace.note(41);
            return super.tells(x - 1) + sends(2);
        }
    }

    private static final class Towed extends Boat {
        Towed(int kind, int number, int v, int hours, int cost, Trace trace) {
            super(kind, number, v, hours, cost, trace);
        }

        int hoursFrom(int hour) {
            return Math.max(0, super.hoursFrom(hour) - 1);
        }

        int sends(int x) {
            trace.note(51);
            return super.sends(x) ^ number;
        }
    }

    private static final class Bribed extends Fire {
        private final int sits;

        Bribed(int number, int v, int hours, int cost, int sits, Trace trace) {
            super(BRIBED, number, v, hours, cost, trace);
            this.sits = sits;
        }

        int hoursFrom(int hour) {
            return super.hoursFrom(hour) + sits;
        }

        int hoursSat() {
            return sits;
        }

        int takes(int x) {
            trace.note(61);
            return super.takes(x) + v;
        }
    }
}
