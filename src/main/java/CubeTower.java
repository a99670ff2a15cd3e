/**
 * Two or three cubes with coloured sides upon one another, so that on each of the four walls no
 * colour comes twice. DOC.md tells what each call answers; NOTES.md tells how it is held here.
 */
public final class CubeTower {
    public static final int NONE = -1, UNKNOWN = -101, OUTSIDE = -102, STATE = -103, FULL = -104;

    private static final int SIDES = 6, COLOURS = 6, WALLS = 4, TURNS = 4, KINDS = 5, QUESTIONS = 3;
    private static final int FIXED = 3, HALF = 4;
    private static final int FEWEST_CUBES = 2, MOST_CUBES = 3, MOST_WAYS = 24;
    private static final int MOST_LETTERS = 26, MOST_TURNS = 999, MOST_SEEN = 6, MOST_REPAINTS = 10;
    private static final int MOST_RUNS = 99;

    /** A cube's letters and the ',' behind it; the last cube of a tower has no ','. */
    private static final int CUBE_LETTERS = SIDES + 2;
    /** The walls are the sides behind TOP and BOTTOM, in the same order. */
    private static final int FIRST_WALL = 2;
    private static final int FIRST_COLOUR_ASKED = 10;
    private static final int SOLVED_AS_IT_IS = -2;
    private static final int ALL_COLOURS = (1 << COLOURS) - 1, ALL_SORTS = (1 << KINDS) - 1;

    private static final String KIND_LETTERS = "cstfh";
    /** The places through which a SPIN takes a side, then those through which a TIP takes it. */
    private static final int[] RINGS = {2, 4, 3, 5, 0, 2, 1, 3};
    private static final int RING_PLACES = 4;
    /** For each kind the turns that it can do, as bits. */
    private static final int[] TURNS_OF_KIND = {15, 3, 12, 0, 3};
    /** For each kind the kinds that it is, as bits. */
    private static final int[] KINDS_OF_KIND = {1, 3, 5, 9, 19};
    /** For each question the kinds that could do it, as bits. */
    private static final int[] KINDS_THAT_COULD = {3, 5, 19};

    private final int[] page = new int[MOST_LETTERS];
    private int letters;
    private int towersRead;
    private int repaints;
    private final Tower now = new Tower();
    private final Tower kept = new Tower();
    private final Tower trial = new Tower();
    private final Survey survey = new Survey();
    /** Whether the survey is of the tower as it is now: it is dear, and several calls ask for it. */
    private boolean surveyed;

    public CubeTower() {
    }

    // ---- the tower

    public int letter(int code) {
        if (code < 32 || code > 126) {
            return OUTSIDE;
        }
        if (letters >= MOST_LETTERS) {
            return FULL;
        }
        page[letters] = code;
        letters++;
        return letters;
    }

    public int blank() {
        int had = letters;
        letters = 0;
        return had;
    }

    public int fault() {
        int place = 0;
        while (place < letters && fits(page[place], place)) {
            place++;
        }
        return place;
    }

    public int tower() {
        int cubes = (letters + 1) / CUBE_LETTERS;
        boolean whole = cubes >= FEWEST_CUBES && cubes * CUBE_LETTERS == letters + 1;
        if (!whole || fault() < letters) {
            return STATE;
        }
        readPage(cubes);
        letters = 0;
        towersRead++;
        kept.size = 0;
        surveyed = false;
        return cubes;
    }

    private static boolean fits(int code, int place) {
        if (place >= MOST_CUBES * CUBE_LETTERS - 1) {
            return false;
        }
        int within = place % CUBE_LETTERS;
        if (within == 0) {
            return KIND_LETTERS.indexOf((char) code) >= 0;
        }
        if (within == CUBE_LETTERS - 1) {
            return code == ',';
        }
        return code >= 'a' && code < 'a' + COLOURS;
    }

    private void readPage(int cubes) {
        now.size = cubes;
        now.turns = 0;
        now.forgetAll();
        for (int cube = 0; cube < cubes && cube < MOST_CUBES; cube++) {
            int start = cube * CUBE_LETTERS;
            now.cubes[cube].kind = KIND_LETTERS.indexOf((char) page[start]);
            for (int side = 0; side < SIDES; side++) {
                now.cubes[cube].colours[side] = page[start + 1 + side] - 'a';
            }
        }
    }

    // ---- cubes, walls

    public int cube(int cube, int what) {
        if (!now.has(cube)) {
            return UNKNOWN;
        }
        Cube asked = now.cubes[cube];
        if (what >= FIRST_COLOUR_ASKED && what < FIRST_COLOUR_ASKED + SIDES) {
            return asked.colours[what - FIRST_COLOUR_ASKED];
        }
        switch (what) {
            case 0: return asked.kind;
            case 1: return survey.waysOfKind[asked.kind].size;
            case 2: return asked.sorts;
            case 3: return nextQuestion(asked.sorts);
            case 4: return TURNS_OF_KIND[asked.kind];
            default: return OUTSIDE;
        }
    }

    public int as(int cube, int kind) {
        if (!now.has(cube)) {
            return UNKNOWN;
        }
        if (kind < 0 || kind >= KINDS) {
            return OUTSIDE;
        }
        return (KINDS_OF_KIND[now.cubes[cube].kind] >> kind & 1) == 1 ? cube : NONE;
    }

    public int wall(int wall, int what) {
        if (wall < 0 || wall >= WALLS || now.size == 0) {
            return UNKNOWN;
        }
        if (what < 0 || what > 1) {
            return OUTSIDE;
        }
        int clashes = now.clashesOn(wall);
        return what == 1 ? clashes : clashes == 0 ? 1 : 0;
    }

    private static int nextQuestion(int sorts) {
        if (sorts == 0) {
            return NONE;
        }
        int best = 0;
        int fewest = KINDS + 1;
        for (int question = 0; question < QUESTIONS; question++) {
            int ifIt = Integer.bitCount(sorts & KINDS_THAT_COULD[question]);
            int ifNot = Integer.bitCount(sorts & ~KINDS_THAT_COULD[question]);
            int left = Math.max(ifIt, ifNot);
            if (left < fewest) {
                fewest = left;
                best = question;
            }
        }
        return best;
    }

    // ---- what is done

    public int turn(int cube, int turn) {
        if (!now.has(cube)) {
            return UNKNOWN;
        }
        if (turn < 0 || turn >= TURNS) {
            return OUTSIDE;
        }
        if (!canTurn(now.cubes[cube].kind, turn)) {
            return STATE;
        }
        if (now.turns >= MOST_TURNS) {
            return FULL;
        }
        now.cubes[cube].turnOver(turn);
        now.turns++;
        surveyed = false;
        return now.clashes();
    }

    public int paint(int cube, int side, int colour) {
        if (!now.has(cube) || side < 0 || side >= SIDES) {
            return UNKNOWN;
        }
        if (colour < 0 || colour >= COLOURS) {
            return OUTSIDE;
        }
        int had = now.cubes[cube].colours[side];
        now.cubes[cube].colours[side] = colour;
        surveyed = false;
        return had;
    }

    public int swap(int one, int other) {
        if (!now.has(one) || !now.has(other) || one == other) {
            return UNKNOWN;
        }
        Cube moved = now.cubes[one];
        now.cubes[one] = now.cubes[other];
        now.cubes[other] = moved;
        surveyed = false;
        return now.clashes();
    }

    public int be(int cube, int kind) {
        if (!now.has(cube)) {
            return UNKNOWN;
        }
        if (kind < 0 || kind >= KINDS) {
            return OUTSIDE;
        }
        int had = now.cubes[cube].kind;
        now.cubes[cube].kind = kind;
        surveyed = false;
        return had;
    }

    private static boolean canTurn(int kind, int turn) {
        return (TURNS_OF_KIND[kind] >> turn & 1) == 1;
    }

    /** Turns the six places of a row that begin at start, as a cube of that kind does it. */
    private static void turnRow(int[] row, int start, int kind, int turn) {
        int quarters = kind == HALF ? 2 : 1;
        // Three quarters on are one quarter back.
        int steps = turn % 2 == 0 ? quarters : RING_PLACES - quarters;
        int ring = turn / 2 * RING_PLACES;
        for (int step = 0; step < steps; step++) {
            int last = row[start + RINGS[ring + RING_PLACES - 1]];
            for (int at = RING_PLACES - 1; at > 0; at--) {
                row[start + RINGS[ring + at]] = row[start + RINGS[ring + at - 1]];
            }
            row[start + RINGS[ring]] = last;
        }
    }

    // ---- what would be

    public int ways(int what) {
        if (what < 0 || what > 1) {
            return OUTSIDE;
        }
        if (now.size == 0) {
            return STATE;
        }
        lookAround();
        return what == 0 ? survey.solutions : survey.least;
    }

    public int turning(int what) {
        if (what < 0 || what > 1) {
            return OUTSIDE;
        }
        if (now.size == 0) {
            return STATE;
        }
        lookAround();
        if (survey.solutions == 0) {
            return NONE;
        }
        return what == 0 ? survey.fewestTurns : survey.firstTurn();
    }

    public int repaint() {
        if (now.size == 0 || repaints >= MOST_REPAINTS) {
            return STATE;
        }
        repaints++;
        lookAround();
        return survey.solutions > 0 ? SOLVED_AS_IT_IS : survey.sideToPaint(now.size);
    }

    public int odds(int what) {
        if (what < 0 || what > 1) {
            return OUTSIDE;
        }
        if (now.size == 0) {
            return STATE;
        }
        lookAround();
        int all = survey.allWays();
        int common = commonDivisor(all, survey.solutions);
        int part = what == 0 ? survey.solutions : all;
        return common > 0 ? part / common : part;
    }

    private void lookAround() {
        if (!surveyed) {
            survey.look(now);
            surveyed = true;
        }
    }

    private static int commonDivisor(int one, int other) {
        int high = one;
        int low = other;
        // Two steps at least halve the greater number, so that 64 are enough for every int.
        for (int step = 0; step < 64 && low != 0; step++) {
            int rest = high % low;
            high = low;
            low = rest;
        }
        return high;
    }

    // ---- what is seen

    public int see(int cube, int what, boolean could) {
        if (!now.has(cube)) {
            return UNKNOWN;
        }
        if (what < 0 || what >= QUESTIONS) {
            return OUTSIDE;
        }
        if (now.seen >= MOST_SEEN) {
            return FULL;
        }
        int able = KINDS_THAT_COULD[what];
        now.cubes[cube].sorts &= could ? able : ~able;
        now.seen++;
        return now.seen;
    }

    public int forget() {
        int had = now.seen;
        now.forgetAll();
        return had;
    }

    public int runs(int times, int seed, int what) {
        if (times < 1 || times > MOST_RUNS || seed < 0 || what < 0 || what > 2) {
            return OUTSIDE;
        }
        if (now.size == 0) {
            return STATE;
        }
        trial.copyFrom(now);
        int drawn = seed;
        int right = 0;
        for (int time = 0; time < times; time++) {
            drawn = nextSeed(drawn);
            int cube = draw(drawn, trial.size);
            drawn = nextSeed(drawn);
            int turn = draw(drawn, TURNS);
            if (trial.has(cube) && canTurn(trial.cubes[cube].kind, turn)) {
                trial.cubes[cube].turnOver(turn);
            }
            if (trial.clashes() == 0) {
                right++;
            }
        }
        return what == 0 ? right : what == 1 ? trial.clashes() : drawn;
    }

    private static int nextSeed(int seed) {
        return (int) (1103515245L * seed + 12345L & Integer.MAX_VALUE);
    }

    private static int draw(int seed, int choices) {
        return choices > 0 ? seed / 65536 % choices : 0;
    }

    // ---- what is told of all

    public int image() {
        if (now.size == 0) {
            return STATE;
        }
        kept.copyFrom(now);
        return kept.turns;
    }

    public int restore() {
        if (kept.size == 0) {
            return STATE;
        }
        now.copyFrom(kept);
        surveyed = false;
        return now.turns;
    }

    public int count(int what) {
        switch (what) {
            case 0: return now.size;
            case 1: return now.clashes();
            case 2: return now.goodWalls();
            case 3: return now.coloursUsed();
            case 4: return now.turns;
            case 5: return now.seen;
            case 6: return letters;
            case 7: return towersRead;
            case 8: return repaints;
            default: return OUTSIDE;
        }
    }

    public long digest() {
        long sum = 1319;
        for (int number = 0; number < now.size; number++) {
            sum = addCube(sum, number);
        }
        if (now.size > 0) {
            sum = addWholeTower(sum);
        }
        for (int place = 0; place < letters; place++) {
            sum = 31 * sum + page[place];
        }
        for (int what = 0; what <= 8; what++) {
            sum = 31 * sum + count(what);
        }
        return sum;
    }

    private long addCube(long before, int number) {
        long sum = before;
        for (int what = 0; what <= 4; what++) {
            sum = 31 * sum + cube(number, what);
        }
        for (int side = 0; side < SIDES; side++) {
            sum = 31 * sum + cube(number, FIRST_COLOUR_ASKED + side);
        }
        return sum;
    }

    private long addWholeTower(long before) {
        long sum = before;
        for (int number = 0; number < WALLS; number++) {
            sum = 31 * sum + wall(number, 0);
            sum = 31 * sum + wall(number, 1);
        }
        sum = 31 * sum + ways(0);
        sum = 31 * sum + ways(1);
        sum = 31 * sum + turning(0);
        sum = 31 * sum + turning(1);
        sum = 31 * sum + odds(0);
        return 31 * sum + odds(1);
    }

    /** A cube as it lies: its colours stand by place, so that a turn moves them. */
    private static final class Cube {
        int kind;
        /** The kinds that all that is seen of this cube leaves, as bits. */
        int sorts = ALL_SORTS;
        final int[] colours = new int[SIDES];

        void turnOver(int turn) {
            turnRow(colours, 0, kind, turn);
        }

        void copyFrom(Cube other) {
            kind = other.kind;
            sorts = other.sorts;
            System.arraycopy(other.colours, 0, colours, 0, SIDES);
        }
    }

    /** All that an image keeps; no tower has size 0. */
    private static final class Tower {
        int size;
        int turns;
        int seen;
        final Cube[] cubes = {new Cube(), new Cube(), new Cube()};

        boolean has(int cube) {
            return cube >= 0 && cube < size && cube < MOST_CUBES;
        }

        void copyFrom(Tower other) {
            size = other.size;
            turns = other.turns;
            seen = other.seen;
            for (int cube = 0; cube < MOST_CUBES; cube++) {
                cubes[cube].copyFrom(other.cubes[cube]);
            }
        }

        void forgetAll() {
            seen = 0;
            for (int cube = 0; cube < MOST_CUBES; cube++) {
                cubes[cube].sorts = ALL_SORTS;
            }
        }

        int clashesOn(int wall) {
            int side = FIRST_WALL + wall;
            int clashes = 0;
            for (int upper = 1; upper < size && upper < MOST_CUBES; upper++) {
                for (int lower = 0; lower < upper; lower++) {
                    if (cubes[upper].colours[side] == cubes[lower].colours[side]) {
                        clashes++;
                    }
                }
            }
            return clashes;
        }

        int clashes() {
            int clashes = 0;
            for (int wall = 0; wall < WALLS; wall++) {
                clashes += clashesOn(wall);
            }
            return clashes;
        }

        int goodWalls() {
            int good = 0;
            for (int wall = 0; wall < WALLS && size > 0; wall++) {
                if (clashesOn(wall) == 0) {
                    good++;
                }
            }
            return good;
        }

        int coloursUsed() {
            int used = 0;
            for (int cube = 0; cube < size && cube < MOST_CUBES; cube++) {
                for (int side = 0; side < SIDES; side++) {
                    used |= 1 << cubes[cube].colours[side];
                }
            }
            return Integer.bitCount(used);
        }
    }

    /** The ways in which a cube of one kind can lie, from the nearest on; way 0 is as it lies. */
    private static final class Ways {
        int size = 1;
        /** Six for each way: the side, as the cube lies now, that comes to each place. */
        final int[] sideAt = new int[(MOST_WAYS + 1) * SIDES];
        final int[] turnsTo = new int[MOST_WAYS];
        /** The turns with which a shortest series to this way can begin, as bits. */
        final int[] firstTurns = new int[MOST_WAYS];

        Ways(int kind) {
            for (int place = 0; place < SIDES; place++) {
                sideAt[place] = place;
            }
            for (int from = 0; from < size && from < MOST_WAYS; from++) {
                for (int turn = 0; turn < TURNS; turn++) {
                    if (canTurn(kind, turn)) {
                        reach(from, kind, turn);
                    }
                }
            }
        }

        private void reach(int from, int kind, int turn) {
            // The row behind the known ways is free for one that may be new.
            System.arraycopy(sideAt, from * SIDES, sideAt, size * SIDES, SIDES);
            turnRow(sideAt, size * SIDES, kind, turn);
            int way = find();
            if (way == size && size < MOST_WAYS) {
                turnsTo[way] = turnsTo[from] + 1;
                size++;
            }
            if (way < size && turnsTo[way] == turnsTo[from] + 1) {
                firstTurns[way] |= from == 0 ? 1 << turn : firstTurns[from];
            }
        }

        /** The first way that is like the one in the row behind all: that row itself, if it is new. */
        private int find() {
            int way = 0;
            while (way < size && !sameRows(way, size)) {
                way++;
            }
            return way;
        }

        private boolean sameRows(int one, int other) {
            for (int place = 0; place < SIDES; place++) {
                if (sideAt[one * SIDES + place] != sideAt[other * SIDES + place]) {
                    return false;
                }
            }
            return true;
        }

        /** The place to which a side comes in a way. */
        int placeOf(int side, int way) {
            int place = 0;
            while (place < SIDES - 1 && sideAt[way * SIDES + place] != side) {
                place++;
            }
            return place;
        }
    }

    /**
     * What all ways of all cubes together come to. The walls of a way are held as one number, six
     * bits a wall, of which the one of its colour is set: clashes are then the bits in common.
     */
    private static final class Survey {
        final Ways[] waysOfKind = {new Ways(0), new Ways(1), new Ways(2), new Ways(3), new Ways(4)};
        /** A third cube that is not there is held as a fixed one without colours. */
        final Ways[] waysOfCube = {waysOfKind[FIXED], waysOfKind[FIXED], waysOfKind[FIXED]};
        final int[][] walls = new int[MOST_CUBES][MOST_WAYS];
        /** The walls of two cubes together, for each of their ways without a clash. */
        final int[] pairs = new int[MOST_WAYS * MOST_WAYS];
        int pairCount;
        int solutions;
        int least;
        int fewestTurns;
        /** The turns with which a shortest series can begin, as bits, four for each cube. */
        int firstTurns;

        void look(Tower tower) {
            for (int cube = 0; cube < MOST_CUBES; cube++) {
                layOut(tower, cube);
            }
            solutions = 0;
            fewestTurns = 0;
            firstTurns = 0;
            least = Integer.MAX_VALUE;
            for (int first = 0; first < waysOfCube[0].size; first++) {
                for (int second = 0; second < waysOfCube[1].size; second++) {
                    int clashes = Integer.bitCount(walls[0][first] & walls[1][second]);
                    // Clashes of two cubes stay, however the third one lies.
                    if (clashes == 0 || clashes < least) {
                        tryThird(first, second, clashes);
                    }
                }
            }
        }

        private void layOut(Tower tower, int cube) {
            boolean there = tower.has(cube);
            Cube laid = tower.cubes[cube];
            Ways ways = waysOfKind[there ? laid.kind : FIXED];
            waysOfCube[cube] = ways;
            for (int way = 0; way < ways.size; way++) {
                walls[cube][way] = there ? wallsOf(laid, ways, way) : 0;
            }
        }

        private static int wallsOf(Cube cube, Ways ways, int way) {
            int bits = 0;
            for (int wall = 0; wall < WALLS; wall++) {
                int side = ways.sideAt[way * SIDES + FIRST_WALL + wall];
                bits |= 1 << wall * COLOURS + cube.colours[side];
            }
            return bits;
        }

        private void tryThird(int first, int second, int clashesOfTwo) {
            int one = walls[0][first];
            int other = walls[1][second];
            for (int third = 0; third < waysOfCube[2].size; third++) {
                int last = walls[2][third];
                int clashes = clashesOfTwo + Integer.bitCount(last & one) + Integer.bitCount(last & other);
                least = Math.min(least, clashes);
                if (clashes == 0) {
                    addSolution(first, second, third);
                }
            }
        }

        private void addSolution(int first, int second, int third) {
            int turns = waysOfCube[0].turnsTo[first] + waysOfCube[1].turnsTo[second] + waysOfCube[2].turnsTo[third];
            if (solutions == 0 || turns < fewestTurns) {
                fewestTurns = turns;
                firstTurns = 0;
            }
            if (turns == fewestTurns) {
                firstTurns |= waysOfCube[0].firstTurns[first]
                        | waysOfCube[1].firstTurns[second] << TURNS
                        | waysOfCube[2].firstTurns[third] << 2 * TURNS;
            }
            solutions++;
        }

        int firstTurn() {
            if (firstTurns == 0) {
                return NONE;
            }
            int bit = Integer.numberOfTrailingZeros(firstTurns);
            return 10 * (bit / TURNS) + bit % TURNS;
        }

        int allWays() {
            return waysOfCube[0].size * waysOfCube[1].size * waysOfCube[2].size;
        }

        /** To be asked only when there is no solution: a colour that helps is then another one. */
        int sideToPaint(int cubes) {
            for (int cube = 0; cube < cubes && cube < MOST_CUBES; cube++) {
                pairOthers(cube);
                for (int side = 0; side < SIDES; side++) {
                    int colours = helpfulColours(cube, side);
                    if (colours != 0) {
                        return 100 * cube + 10 * side + Integer.numberOfTrailingZeros(colours);
                    }
                }
            }
            return NONE;
        }

        private void pairOthers(int cube) {
            int one = (cube + 1) % MOST_CUBES;
            int other = (cube + 2) % MOST_CUBES;
            pairCount = 0;
            for (int way = 0; way < waysOfCube[one].size; way++) {
                for (int otherWay = 0; otherWay < waysOfCube[other].size; otherWay++) {
                    int bits = walls[one][way];
                    int otherBits = walls[other][otherWay];
                    if ((bits & otherBits) == 0 && pairCount < pairs.length) {
                        pairs[pairCount] = bits | otherBits;
                        pairCount++;
                    }
                }
            }
        }

        /** The colours, as bits, with one of which on that side there would be a solution. */
        private int helpfulColours(int cube, int side) {
            int colours = 0;
            for (int way = 0; way < waysOfCube[cube].size; way++) {
                int wall = waysOfCube[cube].placeOf(side, way) - FIRST_WALL;
                // On top or at the bottom no colour matters.
                if (wall >= 0) {
                    colours |= coloursFree(walls[cube][way], wall * COLOURS);
                }
            }
            return colours;
        }

        /** The colours, as bits, that the wall from that bit on could have beside some pair. */
        private int coloursFree(int bits, int shift) {
            int otherWalls = bits & ~(ALL_COLOURS << shift);
            int colours = 0;
            for (int pair = 0; pair < pairCount; pair++) {
                if ((pairs[pair] & otherWalls) == 0) {
                    colours |= ~(pairs[pair] >> shift) & ALL_COLOURS;
                }
            }
            return colours;
        }
    }
}
