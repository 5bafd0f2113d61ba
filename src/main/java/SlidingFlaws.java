import java.util.Arrays;

/** A house of flaws in crystals: what it must do is told in the document's promises 1 to 55. */
public final class SlidingFlaws {
    public static final int NONE = -1;

    private static final int PLACES = 100;
    private static final int MOST_FLAWS = 30;
    private static final int MOST_BYTES = 400;
    private static final int BYTES_OF_A_FEED = 20;
    private static final int MOST_STATEMENTS = 40;
    private static final int MOST_WAYS = 16;
    private static final int MOST_SPECKS = 20;
    private static final int MOST_SOURCES = 5;
    private static final int FARTHEST = 20;
    private static final int MOST_KNOTS = 60;
    private static final int MOST_LINES = 120;
    private static final int LINES_OF_A_SET = 60;
    private static final int MOST_OF_A_LEAST = 8;
    private static final int LARGEST_STEP = 99;
    private static final int LARGEST_WAY = 9;
    private static final int LARGEST_FORCE = 9999;
    private static final int MOST_TICKS = 200;
    private static final int MOST_SIGHTS = 20;
    private static final int MOST_SYSTEMS = 8;
    private static final int MOST_ACTS = 50;
    private static final int LONGEST_CRACK = 60;
    private static final int MOST_PULLS_AIMED = 5;
    private static final int MOST_CURVED = 20;
    private static final int LOW = 0;
    private static final int HIGH = 1;
    private static final int MORE_THAN_ANY = 1 << 30;

    private static final int NOT_TOLD = -100;
    private static final int NO_LINE = -1000;
    private static final int NO_SUM = -100000;
    private static final int NO_FEELING = -1000000000;
    private static final long NO_SHAPE = -1000000000000L;
    private static final int NO_SYSTEM = -1000000;
    private static final long NO_STRAIN = -1000000000000000L;

    private final Reader reader;
    private final Web web;
    private final Pull pull;
    private final Row row;
    private final Row marked;
    private final Acts acts;
    private final Trials trials;
    private final Grain grain;
    // What was read stands in one of these two; a text that is being read comes into the other one,
    // so that a fault in it leaves the first as it was.
    private Crystal crystal;
    private Crystal spare;

    public SlidingFlaws() {
        reader = new Reader();
        web = new Web();
        pull = new Pull();
        row = new Row();
        marked = new Row();
        acts = new Acts();
        trials = new Trials();
        grain = new Grain();
        crystal = new Crystal();
        spare = new Crystal();
    }

    public int feed(int a, int b, int c, int d, int e) {
        if (!reader.hasRoom(BYTES_OF_A_FEED)) {
            return NONE;
        }
        reader.take(a);
        reader.take(b);
        reader.take(c);
        reader.take(d);
        reader.take(e);
        return reader.size();
    }

    public int end(int n) {
        return reader.cut(n) ? n : NONE;
    }

    public int read() {
        int answer = reader.readInto(spare);
        if (answer >= 0) {
            Crystal old = crystal;
            crystal = spare;
            spare = old;
        }
        return answer;
    }

    public int told(int what, int k, int part) {
        Ways ways = waysOf(what);
        if (ways == null || !ways.has(k) || !isPart(part)) {
            return NOT_TOLD;
        }
        return ways.partOf(k, part);
    }

    public int push(int d) {
        return crystal.ground.pushAt(d);
    }

    public int hold(int place, int side) {
        return isPlace(place) && isSide(side) ? crystal.ground.holdAt(place, side) : NONE;
    }

    public int knot(boolean rim) {
        return web.newKnot(rim);
    }

    public int line(int from, int to, int x, int y, int z) {
        return web.newLine(from, to, x, y, z);
    }

    public int lines(int k, int what) {
        return web.tellLine(k, what);
    }

    public int sum(int knot, int part) {
        return web.isKnot(knot) && isPart(part) ? web.sumAt(knot, part) : NO_SUM;
    }

    public int unsound() {
        return web.firstUnsound();
    }

    public int meet(int a, int b) {
        return web.joinLines(a, b);
    }

    public int part(int line, int a, boolean turned) {
        return web.splitLine(crystal.steps, line, a, turned);
    }

    public int least(int knot, long lines) {
        if (!web.isKnot(knot)) {
            return NONE;
        }
        return web.leastWorth(crystal.steps, knot, lines);
    }

    public int group(int i) {
        return web.groupOf(i);
    }

    public long share(int x, int y, int z, int plane, int step, int part) {
        if (!within(part, 0, 1) || !shareIsTold(x, y, z, plane, step)) {
            return NONE;
        }
        return part == 0 ? pull.above : pull.below;
    }

    public int slides(int x, int y, int z, int plane, int step, int p, int h) {
        if (!isForce(p) || !isForce(h) || !shareIsTold(x, y, z, plane, step)) {
            return NONE;
        }
        return pull.overcomes(p, h) ? 1 : 0;
    }

    public int first(int x, int y, int z, int k) {
        return k >= NONE && pull.tell(x, y, z) ? pull.greatestShares(crystal, k) : NONE;
    }

    public boolean put(int place, int sign) {
        boolean came = row.bring(place, sign);
        if (came) {
            acts.keep(row);
        }
        return came;
    }

    public int at(int place) {
        return row.signAt(place);
    }

    public int feels(int place, int q) {
        int sign = row.signAt(place);
        return sign == 0 || !isPull(q) ? NO_FEELING : sign * row.forceAt(crystal.ground, place, q);
    }

    public int clear() {
        int before = row.flaws;
        row.drop();
        acts.keep(row);
        return before;
    }

    public void mark() {
        marked.standAs(row);
    }

    public int back() {
        row.standAs(marked);
        acts.keep(row);
        return row.flaws;
    }

    public int run(int q, int ticks, int side) {
        if (!isPull(q) || !isTicks(ticks) || !isSide(side)) {
            return NONE;
        }
        int had = row.runOn(crystal.ground, q, ticks, side);
        acts.keep(row);
        return had;
    }

    public int sure(int q, int ticks) {
        if (!isPull(q) || !isTicks(ticks)) {
            return NONE;
        }
        return trials.sameByBoth(crystal.ground, row, q, ticks) ? 1 : 0;
    }

    public long shape(int step, int plane, int i, int j) {
        if (!crystal.steps.has(step) || !crystal.planes.has(plane) || !isPart(i) || !isPart(j)) {
            return NO_SHAPE;
        }
        return (long) row.slipped * crystal.steps.partOf(step, i) * crystal.planes.partOf(plane, j);
    }

    public int aim(int n, int a, int b, int c, int d, int ticks, int aim) {
        if (!within(n, 1, 4) || !within(ticks, 1, 20) || !within(aim, -1000, 1000) || aim == 0) {
            return NONE;
        }
        if (!isPull(a) || n > 1 && !isPull(b) || n > 2 && !isPull(c) || n > 3 && !isPull(d)) {
            return NONE;
        }
        trials.tellPulls(n, a, b, c, d);
        return trials.searchPulls(crystal.ground, row, ticks, aim);
    }

    public int aimed(int k) {
        return trials.pullFound(k);
    }

    public int fit(int n, int a, int b, int c, int step, int q, int ticks) {
        if (!within(n, 1, 3) || !within(step, 1, 100) || !isPull(q) || !isTicks(ticks)) {
            return NONE;
        }
        if (!isDistance(a) || n > 1 && (!isDistance(b) || b == a)) {
            return NONE;
        }
        if (n > 2 && (!isDistance(c) || c == a || c == b)) {
            return NONE;
        }
        trials.tellDistances(n, a, b, c, step);
        return trials.searchPushes(crystal.ground, marked, row, q, ticks);
    }

    public int fitted(int k, int i) {
        return trials.pushFound(k, i);
    }

    public int seen(int line, int eye) {
        if (!web.isThere(line) || !crystal.eyes.has(eye)) {
            return NONE;
        }
        return crystal.eyes.product(eye, web.steps, line) != 0 ? 1 : 0;
    }

    public int sight(int eye, boolean seen) {
        return crystal.addSight(eye, seen);
    }

    public int forget() {
        return crystal.dropSights();
    }

    public int readBack(int k) {
        return crystal.fitting(k);
    }

    public int nextEye() {
        return crystal.bestEye();
    }

    public int system(int plane, int step) {
        if (!crystal.planes.has(plane) || !crystal.steps.has(step)) {
            return NONE;
        }
        if (crystal.planes.product(plane, crystal.steps, step) != 0) {
            return NONE;
        }
        return grain.newSystem(crystal, plane, step);
    }

    public boolean harder(int own, int cross) {
        return grain.tellHardening(own, cross);
    }

    public boolean fill(int system, int place, int sign) {
        return grain.bring(system, place, sign);
    }

    public long systems(int k, int what) {
        return grain.tellSystem(k, what);
    }

    public int pulled(int x, int y, int z, int p, int system) {
        if (!isForce(p) || !pull.tell(x, y, z) || !grain.has(system)) {
            return NO_SYSTEM;
        }
        return grain.forceOn(pull, p, system);
    }

    public int load(int x, int y, int z, int p, int steps, int side) {
        if (!isForce(p) || !isTicks(steps) || !isSide(side) || !pull.tell(x, y, z)) {
            return NONE;
        }
        return grain.loadBy(crystal.ground, pull, p, steps, side);
    }

    public long strain(int x, int y, int z) {
        return pull.tell(x, y, z) ? grain.strainAlong(pull) : NO_STRAIN;
    }

    public long curve(int x, int y, int z, int first, int by, int n, int m) {
        if (!isForce(first) || !isPull(by) || !within(n, 1, MOST_CURVED) || !within(m, 1, 50)) {
            return NO_STRAIN;
        }
        if (!isForce(first + (n - 1) * by) || !pull.tell(x, y, z)) {
            return NO_STRAIN;
        }
        return grain.curveBy(crystal.ground, pull, first, by, n, m);
    }

    public long curved(int k) {
        return grain.curvePoint(k);
    }

    public long form(int i, int j) {
        return isPart(i) && isPart(j) ? grain.shapeOf(i, j) : NO_STRAIN;
    }

    public int wall(int place) {
        if (!isPlace(place)) {
            return NONE;
        }
        grain.findWall(place);
        return grain.wallSize;
    }

    public int tilt(int place, int part) {
        if (!isPlace(place) || !isPart(part)) {
            return NO_SUM;
        }
        grain.findWall(place);
        return grain.wallTilt(place, part);
    }

    public boolean undo() {
        return acts.goBack(row);
    }

    public boolean redo() {
        return acts.goOn(row);
    }

    public int shield(int length) {
        return isLength(length) ? row.shieldOf(crystal.ground, length) : NO_FEELING;
    }

    public int crack(int length, int k, int low, int high) {
        if (!isLength(length) || !isPull(k) || !isForce(low) || !isForce(high) || low > high) {
            return NONE;
        }
        int drive = k - row.shieldOf(crystal.ground, length);
        if (drive > high) {
            return 1;
        }
        return drive > low ? 2 : 0;
    }

    public int runsTo(int length, int k, int toughness, int fall) {
        if (!isLength(length) || !isPull(k) || !isForce(toughness) || !within(fall, 0, 999)) {
            return NONE;
        }
        return row.crackEnd(crystal.ground, length, k, toughness, fall);
    }

    public long count(int what) {
        switch (what) {
            case 0: return crystal.steps.many;
            case 1: return crystal.planes.many;
            case 2: return crystal.eyes.many;
            case 3: return web.knotMany;
            case 4: return web.thereMany;
            case 5: return row.flaws;
            case 6: return row.slipped;
            case 7: return row.work;
            case 8: return row.out;
            case 9: return row.lost;
            case 10: return row.came;
            case 11: return reader.size();
            case 12: return crystal.sightMany;
            case 13: return grain.many;
            case 14: return acts.now;
            default: return NONE;
        }
    }

    private Ways waysOf(int what) {
        switch (what) {
            case 0: return crystal.steps;
            case 1: return crystal.planes;
            case 2: return crystal.eyes;
            default: return null;
        }
    }

    private boolean shareIsTold(int x, int y, int z, int plane, int step) {
        return pull.tell(x, y, z) && pull.shareOn(crystal.planes, plane, crystal.steps, step);
    }

    private static boolean within(int value, int least, int most) {
        return least <= value && value <= most;
    }

    private static boolean isPart(int part) {
        return within(part, 0, 2);
    }

    private static boolean isPlace(int place) {
        return 0 <= place && place < PLACES;
    }

    private static boolean isSide(int side) {
        return side == LOW || side == HIGH;
    }

    private static boolean isPull(int q) {
        return within(q, -LARGEST_FORCE, LARGEST_FORCE);
    }

    private static boolean isForce(int p) {
        return within(p, 0, LARGEST_FORCE);
    }

    private static boolean isTicks(int ticks) {
        return within(ticks, 0, MOST_TICKS);
    }

    private static boolean isDistance(int d) {
        return 1 <= d && d <= FARTHEST;
    }

    private static boolean isLength(int length) {
        return within(length, 0, LONGEST_CRACK);
    }

    private static boolean isSign(int sign) {
        return sign == 1 || sign == -1;
    }

    /** Ways in the lattice by numbers, each of three parts. */
    private static final class Ways {
        private final int[] xs;
        private final int[] ys;
        private final int[] zs;
        private int many;

        Ways(int most) {
            int room = Math.max(0, most);
            xs = new int[room];
            ys = new int[room];
            zs = new int[room];
        }

        void drop() {
            many = 0;
        }

        boolean has(int k) {
            return 0 <= k && k < many;
        }

        boolean isFull() {
            return many >= xs.length;
        }

        void append(int x, int y, int z) {
            if (!isFull()) {
                xs[many] = x;
                ys[many] = y;
                zs[many] = z;
                many++;
            }
        }

        void change(int k, int x, int y, int z) {
            if (has(k)) {
                xs[k] = x;
                ys[k] = y;
                zs[k] = z;
            }
        }

        int partOf(int k, int part) {
            if (!has(k)) {
                return 0;
            }
            if (part == 0) {
                return xs[k];
            }
            return part == 1 ? ys[k] : zs[k];
        }

        int productWith(int k, int x, int y, int z) {
            return 0 <= k && k < many ? xs[k] * x + ys[k] * y + zs[k] * z : 0;
        }

        int product(int k, Ways other, int j) {
            if (!has(k) || !other.has(j)) {
                return 0;
            }
            return xs[k] * other.xs[j] + ys[k] * other.ys[j] + zs[k] * other.zs[j];
        }

        int worthOf(int k) {
            return has(k) ? xs[k] * xs[k] + ys[k] * ys[k] + zs[k] * zs[k] : 0;
        }

        boolean areAlike(int k, int j) {
            return has(k) && has(j) && xs[k] == xs[j] && ys[k] == ys[j] && zs[k] == zs[j];
        }

        /** Whether one of these is (x, y, z), or is that when it is turned round. */
        boolean haveEitherWay(int x, int y, int z) {
            for (int k = 0; k < many; k++) {
                if (xs[k] == x && ys[k] == y && zs[k] == z) {
                    return true;
                }
                if (xs[k] == -x && ys[k] == -y && zs[k] == -z) {
                    return true;
                }
            }
            return false;
        }
    }

    /** What a text tells of pushes, holds and sources: all that flaws in a row go by. */
    private static final class Ground {
        private final int[] pushes = new int[FARTHEST + 1];
        private final boolean[] pushTold = new boolean[FARTHEST + 1];
        private final int[] lows = new int[PLACES];
        private final int[] highs = new int[PLACES];
        private final boolean[] speckTold = new boolean[PLACES];
        private final int[] sourceHolds = new int[PLACES];
        private final boolean[] sourceTold = new boolean[PLACES];
        private final int[] sources = new int[MOST_SOURCES];
        private int speckMany;
        private int sourceMany;
        private boolean baseTold;
        private int baseLow;
        private int baseHigh;
        // No flaw feels another one from farther than this: looking on would only add noughts.
        private int reach;

        void drop() {
            Arrays.fill(pushes, 0);
            for (int d = 0; d < pushTold.length; d++) {
                pushTold[d] = false;
            }
            for (int place = 0; place < PLACES; place++) {
                speckTold[place] = false;
                sourceTold[place] = false;
            }
            speckMany = 0;
            sourceMany = 0;
            baseTold = false;
            baseLow = 0;
            baseHigh = 0;
            reach = 0;
        }

        void becomes(Ground other) {
            System.arraycopy(other.pushes, 0, pushes, 0, pushes.length);
            System.arraycopy(other.lows, 0, lows, 0, lows.length);
            System.arraycopy(other.highs, 0, highs, 0, highs.length);
            System.arraycopy(other.sourceHolds, 0, sourceHolds, 0, sourceHolds.length);
            System.arraycopy(other.sources, 0, sources, 0, sources.length);
            sourceMany = other.sourceMany;
            reach = other.reach;
        }

        void tellPush(int d, int value) {
            if (isDistance(d)) {
                pushes[d] = value;
                pushTold[d] = true;
            }
        }

        void tellSpeck(int place, int low, int high) {
            if (isPlace(place)) {
                lows[place] = low;
                highs[place] = high;
                speckTold[place] = true;
                speckMany++;
            }
        }

        void tellSource(int place, int hold) {
            if (isPlace(place)) {
                sourceHolds[place] = hold;
                sourceTold[place] = true;
                sourceMany++;
            }
        }

        void tellBase(int low, int high) {
            baseLow = low;
            baseHigh = high;
            baseTold = true;
        }

        /** The base may be told behind a speck, and sources in any order: so this comes last. */
        void settle() {
            int found = 0;
            for (int place = 0; place < PLACES; place++) {
                if (!speckTold[place]) {
                    lows[place] = baseLow;
                    highs[place] = baseHigh;
                }
                if (sourceTold[place] && found < MOST_SOURCES) {
                    sources[found] = place;
                    found++;
                }
            }
            sourceMany = found;
            findReach();
        }

        void findReach() {
            reach = 0;
            for (int d = 1; d <= FARTHEST; d++) {
                if (pushes[d] != 0) {
                    reach = d;
                }
            }
        }

        int pushAt(int d) {
            return isDistance(d) ? pushes[d] : 0;
        }

        int holdAt(int place, int side) {
            if (!isPlace(place)) {
                return 0;
            }
            return side == LOW ? lows[place] : highs[place];
        }

        boolean isPushTold(int d) {
            return isDistance(d) && pushTold[d];
        }

        boolean isSpeckTold(int place) {
            return isPlace(place) && speckTold[place];
        }

        boolean isSourceTold(int place) {
            return isPlace(place) && sourceTold[place];
        }
    }

    /** All that one text tells, and the sights, which last no longer than it. */
    private static final class Crystal {
        private final Ways steps = new Ways(MOST_WAYS);
        private final Ways planes = new Ways(MOST_WAYS);
        private final Ways eyes = new Ways(MOST_WAYS);
        private final Ground ground = new Ground();
        private final int[] sightEyes = new int[MOST_SIGHTS];
        private final boolean[] sightSeen = new boolean[MOST_SIGHTS];
        private int sightMany;

        void drop() {
            steps.drop();
            planes.drop();
            eyes.drop();
            ground.drop();
            sightMany = 0;
        }

        int addSight(int eye, boolean wasSeen) {
            if (sightMany >= MOST_SIGHTS || !eyes.has(eye)) {
                return NONE;
            }
            sightEyes[sightMany] = eye;
            sightSeen[sightMany] = wasSeen;
            sightMany++;
            return sightMany;
        }

        int dropSights() {
            int before = sightMany;
            sightMany = 0;
            return before;
        }

        boolean isSeenBy(int step, int eye) {
            return eyes.product(eye, steps, step) != 0;
        }

        boolean fitsSights(int step) {
            for (int i = 0; i < sightMany; i++) {
                if (isSeenBy(step, sightEyes[i]) != sightSeen[i]) {
                    return false;
                }
            }
            return true;
        }

        /** The k-th step that fits all sights, or (k NONE) how many do. */
        int fitting(int k) {
            int found = 0;
            for (int step = 0; step < steps.many; step++) {
                if (fitsSights(step)) {
                    if (found == k) {
                        return step;
                    }
                    found++;
                }
            }
            return k == NONE ? found : NONE;
        }

        int bestEye() {
            int all = fitting(NONE);
            int best = NONE;
            // An eye that parts none leaves them all on one side, and so is never below this.
            int leastLeft = all;
            for (int eye = 0; eye < eyes.many; eye++) {
                int would = fittingSeenBy(eye);
                int left = Math.max(would, all - would);
                if (left < leastLeft) {
                    leastLeft = left;
                    best = eye;
                }
            }
            return best;
        }

        private int fittingSeenBy(int eye) {
            int would = 0;
            for (int step = 0; step < steps.many; step++) {
                if (fitsSights(step) && isSeenBy(step, eye)) {
                    would++;
                }
            }
            return would;
        }
    }

    /** The tape, and the reading of it from the left to the right up to its first fault. */
    private static final class Reader {
        private static final int STEP = 0;
        private static final int PLANE = 1;
        private static final int EYE = 2;
        private static final int PUSH = 3;
        private static final int SPECK = 4;
        private static final int SOURCE = 5;
        private static final int BASE = 6;

        private static final int CANNOT_STAND = 0;
        private static final int BAD_NUMBER = 1;
        private static final int BAD_VALUES = 2;
        private static final int TWICE = 3;
        private static final int TOO_MANY = 4;

        private static final int BLANK = 32;
        private static final int MOST_DIGITS = 4;

        private final int[] bytes = new int[MOST_BYTES];
        private int many;
        private int place;
        private int fault;
        private int numberPlace;

        int size() {
            return many;
        }

        boolean hasRoom(int more) {
            return many + more <= MOST_BYTES;
        }

        void take(int four) {
            for (int shift = 24; shift >= 0; shift -= 8) {
                if (many < MOST_BYTES) {
                    bytes[many] = four >>> shift & 255;
                    many++;
                }
            }
        }

        boolean cut(int n) {
            if (!within(n, 0, many)) {
                return false;
            }
            many = n;
            return true;
        }

        /** How many statements were read, or -2 less the fault; the tape is empty then. */
        int readInto(Crystal crystal) {
            crystal.drop();
            place = 0;
            fault = 0;
            int statements = 0;
            skipBlanks();
            boolean goesOn = place < many;
            while (goesOn && statements <= MOST_STATEMENTS) {
                readStatement(crystal, statements);
                statements++;
                skipBlanks();
                if (place < many && byteAt(place) != ';') {
                    refuse(place, CANNOT_STAND);
                }
                goesOn = fault == 0 && place < many;
                place++;
                skipBlanks();
            }
            many = 0;
            crystal.ground.settle();
            return fault == 0 ? statements : -2 - fault;
        }

        private void readStatement(Crystal crystal, int before) {
            int letters = lettersAhead();
            int sort = sortAhead(letters);
            if (sort == NONE) {
                refuse(place, CANNOT_STAND);
            } else if (sort == BASE && crystal.ground.baseTold) {
                refuse(place, TWICE);
            } else if (before >= MOST_STATEMENTS || isFull(crystal, sort)) {
                refuse(place, TOO_MANY);
            } else {
                place += letters;
                readNumbers(crystal, sort);
            }
        }

        private int lettersAhead() {
            int letters = 0;
            while (place + letters < many && isLetter(byteAt(place + letters))) {
                letters++;
            }
            return letters;
        }

        private int sortAhead(int letters) {
            if (isWord("step", letters)) {
                return STEP;
            }
            if (isWord("plane", letters)) {
                return PLANE;
            }
            if (isWord("eye", letters)) {
                return EYE;
            }
            if (isWord("push", letters)) {
                return PUSH;
            }
            if (isWord("speck", letters)) {
                return SPECK;
            }
            if (isWord("source", letters)) {
                return SOURCE;
            }
            return isWord("base", letters) ? BASE : NONE;
        }

        private boolean isWord(String word, int letters) {
            if (word.length() != letters) {
                return false;
            }
            for (int i = 0; i < letters; i++) {
                if (byteAt(place + i) != word.charAt(i)) {
                    return false;
                }
            }
            return true;
        }

        private static boolean isFull(Crystal crystal, int sort) {
            switch (sort) {
                case STEP: return crystal.steps.isFull();
                case PLANE: return crystal.planes.isFull();
                case EYE: return crystal.eyes.isFull();
                case SPECK: return crystal.ground.speckMany >= MOST_SPECKS;
                case SOURCE: return crystal.ground.sourceMany >= MOST_SOURCES;
                // A push more than there are distances is one that is told twice.
                default: return false;
            }
        }

        private void readNumbers(Crystal crystal, int sort) {
            switch (sort) {
                case STEP: readWay(crystal.steps); break;
                case PLANE: readWay(crystal.planes); break;
                case EYE: readWay(crystal.eyes); break;
                case PUSH: readPush(crystal.ground); break;
                case SPECK: readSpeck(crystal.ground); break;
                case SOURCE: readSource(crystal.ground); break;
                default: readBase(crystal.ground); break;
            }
        }

        private void readWay(Ways ways) {
            int x = number(-LARGEST_WAY, LARGEST_WAY);
            int where = numberPlace;
            int y = number(-LARGEST_WAY, LARGEST_WAY);
            int z = number(-LARGEST_WAY, LARGEST_WAY);
            if (x == 0 && y == 0 && z == 0) {
                refuse(where, BAD_VALUES);
            }
            if (fault == 0) {
                ways.append(x, y, z);
            }
        }

        private void readPush(Ground ground) {
            int d = number(1, FARTHEST);
            if (ground.isPushTold(d)) {
                refuse(numberPlace, TWICE);
            }
            int value = number(0, 999);
            if (fault == 0) {
                ground.tellPush(d, value);
            }
        }

        private void readSpeck(Ground ground) {
            int where = number(0, PLACES - 1);
            if (ground.isSpeckTold(where)) {
                refuse(numberPlace, TWICE);
            }
            int low = number(0, LARGEST_FORCE);
            int high = number(0, LARGEST_FORCE);
            if (high < low) {
                refuse(numberPlace, BAD_VALUES);
            }
            if (fault == 0) {
                ground.tellSpeck(where, low, high);
            }
        }

        private void readSource(Ground ground) {
            int where = number(1, PLACES - 2);
            if (ground.isSourceTold(where)) {
                refuse(numberPlace, TWICE);
            }
            int hold = number(0, LARGEST_FORCE);
            if (fault == 0) {
                ground.tellSource(where, hold);
            }
        }

        private void readBase(Ground ground) {
            int low = number(0, LARGEST_FORCE);
            int high = number(0, LARGEST_FORCE);
            if (high < low) {
                refuse(numberPlace, BAD_VALUES);
            }
            if (fault == 0) {
                ground.tellBase(low, high);
            }
        }

        /** Each number stands behind a word or another number, and so behind a blank. */
        private int number(int least, int most) {
            if (byteAt(place) != BLANK) {
                refuse(place, CANNOT_STAND);
            }
            skipBlanks();
            if (fault != 0) {
                return 0;
            }
            numberPlace = place;
            boolean below = byteAt(place) == '-';
            if (below) {
                place++;
            }
            if (!isDigit(byteAt(place))) {
                refuse(place, CANNOT_STAND);
            }
            int value = 0;
            int digits = 0;
            while (isDigit(byteAt(place)) && digits < MOST_BYTES) {
                // A number of more digits is refused: what it would come to is of no matter.
                value = digits < MOST_DIGITS ? value * 10 + byteAt(place) - '0' : value;
                digits++;
                place++;
            }
            value = below ? -value : value;
            if (digits > MOST_DIGITS || !within(value, least, most)) {
                refuse(numberPlace, BAD_NUMBER);
            }
            return value;
        }

        private void skipBlanks() {
            while (place < many && byteAt(place) == BLANK) {
                place++;
            }
        }

        /** The reading goes on by rote behind a fault: only the first one counts. */
        private void refuse(int where, int kind) {
            if (fault == 0) {
                fault = 1 + 8 * where + kind;
            }
        }

        private int byteAt(int where) {
            return 0 <= where && where < many ? bytes[where] : NONE;
        }

        private static boolean isLetter(int sign) {
            return 'a' <= sign && sign <= 'z';
        }

        private static boolean isDigit(int sign) {
            return '0' <= sign && sign <= '9';
        }
    }

    /** Knots, the lines between them, and the groups that lines at a knot come to. */
    private static final class Web {
        private final boolean[] rims = new boolean[MOST_KNOTS];
        private final int[] froms = new int[MOST_LINES];
        private final int[] tos = new int[MOST_LINES];
        private final Ways steps = new Ways(MOST_LINES);
        private final boolean[] there = new boolean[MOST_LINES];
        private int knotMany;
        private int thereMany;

        private final int[] chosen = new int[MOST_OF_A_LEAST];
        private final int[] groups = new int[MOST_OF_A_LEAST];
        // One place for each set of the chosen lines: its sum, its worth as one line (NONE: it
        // can't be one), the least worth that it can come to, and the first line's group then.
        private final Ways sums = new Ways(1 << MOST_OF_A_LEAST);
        private final int[] worths = new int[1 << MOST_OF_A_LEAST];
        private final int[] leasts = new int[1 << MOST_OF_A_LEAST];
        private final int[] firsts = new int[1 << MOST_OF_A_LEAST];
        private int groupMany;

        boolean isKnot(int knot) {
            return within(knot, 0, knotMany - 1);
        }

        boolean isThere(int line) {
            return steps.has(line) && there[line];
        }

        int newKnot(boolean rim) {
            if (knotMany >= MOST_KNOTS) {
                return NONE;
            }
            rims[knotMany] = rim;
            knotMany++;
            return knotMany - 1;
        }

        int newLine(int from, int to, int x, int y, int z) {
            if (steps.isFull() || !isKnot(from) || !isKnot(to) || from == to) {
                return NONE;
            }
            if (!isStepPart(x) || !isStepPart(y) || !isStepPart(z) || x == 0 && y == 0 && z == 0) {
                return NONE;
            }
            int line = steps.many;
            steps.append(x, y, z);
            froms[line] = from;
            tos[line] = to;
            there[line] = true;
            thereMany++;
            return line;
        }

        int tellLine(int k, int what) {
            if (!isThere(k)) {
                return NO_LINE;
            }
            switch (what) {
                case 0:
                case 1:
                case 2: return steps.partOf(k, what);
                case 3: return froms[k];
                case 4: return tos[k];
                case 5: return steps.worthOf(k);
                default: return NO_LINE;
            }
        }

        int sumAt(int knot, int part) {
            int sum = 0;
            for (int line = 0; line < steps.many; line++) {
                if (there[line] && froms[line] == knot) {
                    sum += steps.partOf(line, part);
                } else if (there[line] && tos[line] == knot) {
                    sum -= steps.partOf(line, part);
                }
            }
            return sum;
        }

        int firstUnsound() {
            for (int knot = 0; knot < knotMany; knot++) {
                boolean sound = sumAt(knot, 0) == 0 && sumAt(knot, 1) == 0 && sumAt(knot, 2) == 0;
                if (!rims[knot] && !sound) {
                    return knot;
                }
            }
            return NONE;
        }

        int joinLines(int a, int b) {
            if (!isThere(a) || !isThere(b) || a == b) {
                return NONE;
            }
            boolean alike = froms[a] == froms[b] && tos[a] == tos[b];
            boolean opposite = froms[a] == tos[b] && tos[a] == froms[b];
            if (!alike && !opposite) {
                return NONE;
            }
            int way = alike ? 1 : -1;
            int x = steps.partOf(a, 0) + way * steps.partOf(b, 0);
            int y = steps.partOf(a, 1) + way * steps.partOf(b, 1);
            int z = steps.partOf(a, 2) + way * steps.partOf(b, 2);
            if (!isStepPart(x) || !isStepPart(y) || !isStepPart(z)) {
                return -2;
            }
            int worth = x * x + y * y + z * z;
            if (worth >= steps.worthOf(a) + steps.worthOf(b)) {
                return 0;
            }
            steps.change(a, x, y, z);
            remove(b);
            if (worth == 0) {
                remove(a);
            }
            return 1;
        }

        private void remove(int line) {
            if (isThere(line)) {
                there[line] = false;
                thereMany--;
            }
        }

        int splitLine(Ways ways, int line, int a, boolean turned) {
            if (!isThere(line) || !ways.has(a) || steps.isFull()) {
                return NONE;
            }
            int way = turned ? -1 : 1;
            int ax = way * ways.partOf(a, 0);
            int ay = way * ways.partOf(a, 1);
            int az = way * ways.partOf(a, 2);
            int x = steps.partOf(line, 0) - ax;
            int y = steps.partOf(line, 1) - ay;
            int z = steps.partOf(line, 2) - az;
            if (!ways.haveEitherWay(x, y, z)) {
                return -2;
            }
            if (ways.worthOf(a) + x * x + y * y + z * z >= steps.worthOf(line)) {
                return -2;
            }
            steps.change(line, ax, ay, az);
            return newLine(froms[line], tos[line], x, y, z);
        }

        int leastWorth(Ways ways, int knot, long set) {
            int many = choose(knot, set);
            if (many < 2) {
                return NONE;
            }
            int sets = 1 << many;
            addUp(knot, many, sets);
            for (int one = 1; one < sets; one++) {
                worths[one] = worthAsOne(ways, one);
            }
            for (int one = 1; one < sets; one++) {
                findLeast(one);
            }
            nameGroups(many, sets - 1);
            return leasts[sets - 1];
        }

        /** How many lines the set tells, which are chosen then; 0 if one can't be. */
        private int choose(int knot, long set) {
            // A bit above those of lines tells one that isn't there: it is refused, not passed over.
            if (set >>> LINES_OF_A_SET != 0L) {
                return 0;
            }
            int many = 0;
            for (int line = 0; line < LINES_OF_A_SET; line++) {
                if ((set >>> line & 1L) != 0) {
                    boolean here = isThere(line) && (froms[line] == knot || tos[line] == knot);
                    if (!here || many >= MOST_OF_A_LEAST) {
                        return 0;
                    }
                    chosen[many] = line;
                    many++;
                }
            }
            return many;
        }

        private void addUp(int knot, int many, int sets) {
            sums.drop();
            sums.append(0, 0, 0);
            for (int one = 1; one < sets; one++) {
                int i = lowestOf(one, many);
                int line = chosen[i];
                int way = froms[line] == knot ? 1 : -1;
                int rest = one & one - 1;
                int x = sums.partOf(rest, 0) + way * steps.partOf(line, 0);
                int y = sums.partOf(rest, 1) + way * steps.partOf(line, 1);
                int z = sums.partOf(rest, 2) + way * steps.partOf(line, 2);
                sums.append(x, y, z);
            }
        }

        private static int lowestOf(int set, int many) {
            for (int i = 0; i < many; i++) {
                if ((set >> i & 1) != 0) {
                    return i;
                }
            }
            return 0;
        }

        private int worthAsOne(Ways ways, int set) {
            int worth = sums.worthOf(set);
            boolean alone = (set & set - 1) == 0;
            if (alone || worth == 0) {
                return worth;
            }
            boolean told = ways.haveEitherWay(sums.partOf(set, 0), sums.partOf(set, 1), sums.partOf(set, 2));
            return told ? worth : NONE;
        }

        /** The groups of the lowest line are tried from the least set on, so that it stays of several. */
        private void findLeast(int set) {
            int rest = set & set - 1;
            int lowest = set ^ rest;
            leasts[0] = 0;
            leasts[set] = MORE_THAN_ANY;
            for (int more = 0; more <= rest; more++) {
                int group = lowest | more;
                boolean can = (more & ~rest) == 0 && worths[group] != NONE;
                if (can && worths[group] + leasts[set ^ group] < leasts[set]) {
                    leasts[set] = worths[group] + leasts[set ^ group];
                    firsts[set] = group;
                }
            }
        }

        private void nameGroups(int many, int all) {
            groupMany = many;
            int left = all;
            for (int name = 0; name < many && left > 0; name++) {
                int group = firsts[left];
                for (int i = 0; i < many; i++) {
                    if ((group >> i & 1) != 0) {
                        groups[i] = name;
                    }
                }
                left &= ~group;
            }
        }

        int groupOf(int i) {
            return within(i, 0, groupMany - 1) ? groups[i] : NONE;
        }

        private static boolean isStepPart(int part) {
            return within(part, -LARGEST_STEP, LARGEST_STEP);
        }
    }

    /** A pull along a way, and its share on the plane and step that was asked for last. */
    private static final class Pull {
        private int x;
        private int y;
        private int z;
        private long product;
        // The share's square in lowest terms.
        private long above;
        private long below = 1;

        boolean tell(int a, int b, int c) {
            if (!isWayPart(a) || !isWayPart(b) || !isWayPart(c) || a == 0 && b == 0 && c == 0) {
                return false;
            }
            x = a;
            y = b;
            z = c;
            return true;
        }

        private static boolean isWayPart(int part) {
            return within(part, -LARGEST_WAY, LARGEST_WAY);
        }

        /** (t * n) * (t * b), which has the share's sign. */
        long productOn(Ways planes, int plane, Ways steps, int step) {
            return (long) planes.productWith(plane, x, y, z) * steps.productWith(step, x, y, z);
        }

        boolean shareOn(Ways planes, int plane, Ways steps, int step) {
            if (!planes.has(plane) || !steps.has(step) || planes.product(plane, steps, step) != 0) {
                return false;
            }
            product = productOn(planes, plane, steps, step);
            long along = x * x + y * y + z * z;
            long square = product * product;
            long squares = along * along * planes.worthOf(plane) * steps.worthOf(step);
            long common = commonOf(square, squares);
            if (common <= 0) {
                return false;
            }
            above = square / common;
            below = squares / common;
            return true;
        }

        private static long commonOf(long a, long b) {
            long greater = a;
            long lesser = b;
            for (int i = 0; i < 1000 && lesser != 0; i++) {
                long rest = greater % lesser;
                greater = lesser;
                lesser = rest;
            }
            return greater;
        }

        boolean overcomes(int p, int hold) {
            return (long) p * p * above > (long) hold * hold * below;
        }

        /** Of how many planes and steps the share is the greatest (k NONE), or the k-th of these. */
        int greatestShares(Crystal crystal, int k) {
            long mostAbove = 0;
            long mostBelow = 1;
            int found = 0;
            int answer = NONE;
            for (int plane = 0; plane < crystal.planes.many; plane++) {
                for (int step = 0; step < crystal.steps.many; step++) {
                    if (!shareOn(crystal.planes, plane, crystal.steps, step) || above == 0) {
                        continue;
                    }
                    // A share is a half at most: so these products stay below 2 to the 62nd.
                    long more = above * mostBelow - mostAbove * below;
                    if (more > 0) {
                        mostAbove = above;
                        mostBelow = below;
                        found = 0;
                        answer = NONE;
                    }
                    if (more >= 0) {
                        answer = found == k ? 16 * plane + step : answer;
                        found++;
                    }
                }
            }
            return k == NONE ? found : answer;
        }

        /** What a pull of p comes to on the plane and step that was asked for last. */
        int forceOf(int p) {
            if (below <= 0) {
                return 0;
            }
            long square = (long) p * p * above / below;
            long root = 0;
            for (long bit = 1 << 14; bit > 0; bit >>= 1) {
                if ((root + bit) * (root + bit) <= square) {
                    root += bit;
                }
            }
            return (int) (product < 0 ? -root : root);
        }
    }

    /** A row of flaws, and all that is counted of it. */
    private static final class Row {
        private final int[] signs = new int[PLACES];
        private final int[] stood = new int[MOST_FLAWS];
        private final int[] felt = new int[MOST_FLAWS];
        private int flaws;
        private int slipped;
        private int gone;
        private long work;
        private int out;
        private int lost;
        private int came;

        void drop() {
            Arrays.fill(signs, 0);
            flaws = 0;
            slipped = 0;
            gone = 0;
            work = 0;
            out = 0;
            lost = 0;
            came = 0;
        }

        void standAs(Row other) {
            System.arraycopy(other.signs, 0, signs, 0, signs.length);
            flaws = other.flaws;
        }

        void becomes(Row other) {
            standAs(other);
            slipped = other.slipped;
            gone = other.gone;
            work = other.work;
            out = other.out;
            lost = other.lost;
            came = other.came;
        }

        boolean standsAs(Row other) {
            for (int place = 0; place < PLACES; place++) {
                if (signs[place] != other.signs[place]) {
                    return false;
                }
            }
            return true;
        }

        int signAt(int place) {
            return 0 <= place && place < PLACES ? signs[place] : 0;
        }

        boolean isFree(int place) {
            return 0 <= place && place < PLACES && signs[place] == 0;
        }

        boolean bring(int place, int sign) {
            if (!isFree(place) || !isSign(sign) || flaws >= MOST_FLAWS) {
                return false;
            }
            signs[place] = sign;
            flaws++;
            return true;
        }

        /** What a flaw of sign 1 feels to the right at a place; one of sign -1 feels that less. */
        int forceAt(Ground ground, int place, int q) {
            int force = q;
            for (int d = 1; d <= ground.reach; d++) {
                int onLeft = place >= d ? signs[place - d] : 0;
                int onRight = place + d < PLACES ? signs[place + d] : 0;
                force += (onLeft - onRight) * ground.pushes[d];
            }
            return force;
        }

        int runOn(Ground ground, int q, int ticks, int side) {
            for (int had = 0; had < ticks; had++) {
                if (!tick(ground, q, side, 0)) {
                    return had;
                }
            }
            return Math.max(0, ticks);
        }

        /** Whether anything went, was gone or came: if not, all is as it was. */
        boolean tick(Ground ground, int q, int side, long more) {
            int many = feelAll(ground, q);
            int slippedBefore = slipped;
            int cameBefore = came;
            boolean went = false;
            for (int i = 0; i < many; i++) {
                if (go(i, ground.holdAt(stood[i], side) + more)) {
                    went = true;
                }
            }
            for (int i = 0; i < ground.sourceMany; i++) {
                give(ground, ground.sources[i], q);
            }
            work += (long) q * (slipped - slippedBefore);
            return went || came != cameBefore;
        }

        private int feelAll(Ground ground, int q) {
            int many = 0;
            for (int place = 0; place < PLACES && many < MOST_FLAWS; place++) {
                if (signs[place] != 0) {
                    stood[many] = place;
                    felt[many] = signs[place] * forceAt(ground, place, q);
                    many++;
                }
            }
            return many;
        }

        /** No flaw can come to where a later one stood before that one's turn, so a sign there is its own. */
        private boolean go(int i, long hold) {
            int from = stood[i];
            int sign = signAt(from);
            int way = felt[i] > hold ? 1 : -felt[i] > hold ? -1 : 0;
            int to = from + way;
            if (sign == 0 || way == 0 || signAt(to) == sign) {
                return false;
            }
            signs[from] = 0;
            if (!isPlace(to)) {
                flaws--;
                out++;
            } else if (signs[to] == 0) {
                signs[to] = sign;
            } else {
                signs[to] = 0;
                flaws -= 2;
                lost += 2;
            }
            slipped += way * sign;
            gone++;
            return true;
        }

        private void give(Ground ground, int place, int q) {
            if (flaws > MOST_FLAWS - 2 || !isFree(place - 1) || !isFree(place) || !isFree(place + 1)) {
                return;
            }
            int force = forceAt(ground, place, q);
            int hold = ground.sourceHolds[place];
            int sign = force > hold ? 1 : force < -hold ? -1 : 0;
            if (sign != 0) {
                signs[place + 1] = sign;
                signs[place - 1] = -sign;
                flaws += 2;
                came += 2;
            }
        }

        int shieldOf(Ground ground, int length) {
            int sum = 0;
            for (int d = 1; d <= ground.reach; d++) {
                sum += signAt(length + d) * ground.pushAt(d);
            }
            return sum;
        }

        int crackEnd(Ground ground, int length, int drive, int toughness, int fall) {
            int now = length;
            int left = drive;
            while (now < LONGEST_CRACK && isFree(now + 1) && left - shieldOf(ground, now) > toughness) {
                now++;
                left -= fall;
            }
            return now;
        }
    }

    /** Runs that are only tried: the row itself stays as it is. */
    private static final class Trials {
        private static final int MOST_PULLS = 4;
        private static final int MOST_DISTANCES = 3;
        private static final int VALUES = 8;

        // The row as it is, and behind each pull of those that are tried one behind the other.
        private final Row[] rows = new Row[MOST_PULLS_AIMED + 1];
        private final Ground ground = new Ground();

        private final int[] pulls = new int[MOST_PULLS];
        private final int[] tried = new int[MOST_PULLS_AIMED];
        private final int[] best = new int[MOST_PULLS_AIMED];
        private int pullMany;
        private int bestMany;

        private final int[] distances = new int[MOST_DISTANCES];
        private final int[] found = new int[VALUES * VALUES * VALUES];
        private int distanceMany;
        private int pushStep;
        private int foundMany;

        Trials() {
            for (int i = 0; i < rows.length; i++) {
                rows[i] = new Row();
            }
        }

        boolean sameByBoth(Ground truth, Row row, int q, int ticks) {
            rows[0].becomes(row);
            rows[1].becomes(row);
            rows[0].runOn(truth, q, ticks, LOW);
            rows[1].runOn(truth, q, ticks, HIGH);
            return rows[0].standsAs(rows[1]);
        }

        void tellPulls(int n, int a, int b, int c, int d) {
            pulls[0] = a;
            pulls[1] = b;
            pulls[2] = c;
            pulls[3] = d;
            pullMany = Math.max(1, Math.min(n, MOST_PULLS));
        }

        int searchPulls(Ground truth, Row row, int ticks, int aim) {
            rows[0].becomes(row);
            for (int many = 1; many <= MOST_PULLS_AIMED; many++) {
                if (searchOfLength(truth, many, ticks, aim)) {
                    bestMany = many;
                    return many;
                }
            }
            return -2;
        }

        /** By numbers, so that of several with one sum the first stays. */
        private boolean searchOfLength(Ground truth, int many, int ticks, int aim) {
            Arrays.fill(tried, 0);
            int least = MORE_THAN_ANY;
            int changed = 0;
            int all = waysToPull(many);
            for (int one = 0; one < all; one++) {
                for (int i = changed; i < many; i++) {
                    rows[i + 1].becomes(rows[i]);
                    rows[i + 1].runOn(truth, pulls[tried[i]], ticks, HIGH);
                }
                int sum = sumOfTried(many);
                if (sum < least && reaches(rows[many].slipped - rows[0].slipped, aim)) {
                    least = sum;
                    System.arraycopy(tried, 0, best, 0, many);
                }
                changed = nextTried(many);
            }
            return least < MORE_THAN_ANY;
        }

        private int waysToPull(int many) {
            int ways = 1;
            for (int i = 0; i < many; i++) {
                ways *= pullMany;
            }
            return ways;
        }

        private static boolean reaches(int slipped, int aim) {
            return aim > 0 ? slipped >= aim : slipped <= aim;
        }

        private int sumOfTried(int many) {
            int sum = 0;
            for (int i = 0; i < many; i++) {
                sum += Math.abs(pulls[tried[i]]);
            }
            return sum;
        }

        /** Goes on to the next pulls by numbers: the first place that changed. */
        private int nextTried(int many) {
            for (int i = many - 1; i >= 0; i--) {
                if (tried[i] + 1 < pullMany) {
                    tried[i]++;
                    return i;
                }
                tried[i] = 0;
            }
            return 0;
        }

        int pullFound(int k) {
            return within(k, 0, bestMany - 1) ? best[k] : NONE;
        }

        void tellDistances(int n, int a, int b, int c, int step) {
            distances[0] = a;
            distances[1] = b;
            distances[2] = c;
            distanceMany = Math.max(1, Math.min(n, MOST_DISTANCES));
            pushStep = step;
        }

        int searchPushes(Ground truth, Row marked, Row row, int q, int ticks) {
            ground.becomes(truth);
            foundMany = 0;
            int codes = 1;
            for (int i = 0; i < distanceMany; i++) {
                codes *= VALUES;
            }
            for (int code = 0; code < codes; code++) {
                for (int i = 0; i < distanceMany; i++) {
                    ground.tellPush(distances[i], pushOf(code, i));
                }
                ground.findReach();
                rows[0].becomes(marked);
                rows[0].runOn(ground, q, ticks, LOW);
                if (rows[0].standsAs(row)) {
                    found[foundMany] = code;
                    foundMany++;
                }
            }
            return foundMany;
        }

        /** A code has three bits for each distance, the first one's above the others. */
        private int pushOf(int code, int i) {
            return (code >> 3 * (distanceMany - 1 - i) & VALUES - 1) * pushStep;
        }

        int pushFound(int k, int i) {
            boolean was = within(k, 0, foundMany - 1) && within(i, 0, distanceMany - 1);
            return was ? pushOf(found[k], i) : NONE;
        }
    }

    /** The row as it was behind each act that is kept, the one ahead of them all first. */
    private static final class Acts {
        private final Row[] kept = new Row[MOST_ACTS + 1];
        private int now;
        private int last;

        Acts() {
            for (int i = 0; i < kept.length; i++) {
                kept[i] = new Row();
            }
        }

        void keep(Row row) {
            if (now >= MOST_ACTS) {
                forgetOldest();
            }
            now++;
            last = now;
            kept[now].becomes(row);
        }

        private void forgetOldest() {
            Row oldest = kept[0];
            for (int i = 0; i < MOST_ACTS; i++) {
                kept[i] = kept[i + 1];
            }
            kept[MOST_ACTS] = oldest;
            now = MOST_ACTS - 1;
        }

        boolean goBack(Row row) {
            if (now <= 0) {
                return false;
            }
            now--;
            row.becomes(kept[now]);
            return true;
        }

        boolean goOn(Row row) {
            if (now >= last) {
                return false;
            }
            now++;
            row.becomes(kept[now]);
            return true;
        }
    }

    /** Systems, each a row on a plane along a step, that harden one another. */
    private static final class Grain {
        private final Row[] rows = new Row[MOST_SYSTEMS];
        private final Ways planes = new Ways(MOST_SYSTEMS);
        private final Ways steps = new Ways(MOST_SYSTEMS);
        private final long[] hardnesses = new long[MOST_SYSTEMS];
        private final int[] forces = new int[MOST_SYSTEMS];
        private final long[] points = new long[MOST_CURVED];
        private int many;
        private int ownPart;
        private int crossPart;
        private int pointMany;
        private int wallFirst;
        private int wallSize;

        Grain() {
            for (int i = 0; i < rows.length; i++) {
                rows[i] = new Row();
            }
        }

        boolean has(int k) {
            return within(k, 0, many - 1);
        }

        int newSystem(Crystal crystal, int plane, int step) {
            if (many >= MOST_SYSTEMS) {
                return NONE;
            }
            Ways from = crystal.planes;
            planes.append(from.partOf(plane, 0), from.partOf(plane, 1), from.partOf(plane, 2));
            from = crystal.steps;
            steps.append(from.partOf(step, 0), from.partOf(step, 1), from.partOf(step, 2));
            many++;
            return many - 1;
        }

        boolean tellHardening(int own, int cross) {
            if (!within(own, 0, 999) || !within(cross, 0, 999)) {
                return false;
            }
            ownPart = own;
            crossPart = cross;
            return true;
        }

        boolean bring(int system, int place, int sign) {
            return has(system) && rows[system].bring(place, sign);
        }

        long tellSystem(int k, int what) {
            if (!has(k)) {
                return NO_SYSTEM;
            }
            switch (what) {
                case 0: return rows[k].flaws;
                case 1: return rows[k].slipped;
                case 2: return rows[k].gone;
                case 3: return hardnessOf(k);
                case 4: return rows[k].out;
                case 5: return rows[k].lost;
                case 6: return rows[k].came;
                default: return within(what, 100, 99 + PLACES) ? rows[k].signAt(what - 100) : NO_SYSTEM;
            }
        }

        private long hardnessOf(int k) {
            long sum = 0;
            for (int i = 0; i < many; i++) {
                sum += (long) (i == k ? ownPart : crossPart) * rows[i].gone;
            }
            return sum / 100;
        }

        int forceOn(Pull pull, int p, int k) {
            return pull.shareOn(planes, k, steps, k) ? pull.forceOf(p) : 0;
        }

        int loadBy(Ground ground, Pull pull, int p, int ticks, int side) {
            for (int k = 0; k < many; k++) {
                forces[k] = forceOn(pull, p, k);
            }
            for (int had = 0; had < ticks; had++) {
                if (!tickAll(ground, side)) {
                    return had;
                }
            }
            return Math.max(0, ticks);
        }

        /** What all are harder by is looked at ahead of the first one's tick, which changes it. */
        private boolean tickAll(Ground ground, int side) {
            for (int k = 0; k < many; k++) {
                hardnesses[k] = hardnessOf(k);
            }
            boolean changed = false;
            for (int k = 0; k < many; k++) {
                if (rows[k].tick(ground, forces[k], side, hardnesses[k])) {
                    changed = true;
                }
            }
            return changed;
        }

        long strainAlong(Pull pull) {
            long sum = 0;
            for (int k = 0; k < many; k++) {
                sum += rows[k].slipped * pull.productOn(planes, k, steps, k);
            }
            return sum;
        }

        long curveBy(Ground ground, Pull pull, int first, int by, int n, int most) {
            pointMany = Math.min(n, MOST_CURVED);
            for (int i = 0; i < pointMany; i++) {
                loadBy(ground, pull, first + i * by, most, HIGH);
                points[i] = strainAlong(pull);
            }
            return curvePoint(pointMany - 1);
        }

        long curvePoint(int k) {
            return within(k, 0, pointMany - 1) ? points[k] : NO_STRAIN;
        }

        long shapeOf(int i, int j) {
            long sum = 0;
            for (int k = 0; k < many; k++) {
                sum += (long) rows[k].slipped * steps.partOf(k, i) * planes.partOf(k, j);
            }
            return sum;
        }

        void findWall(int place) {
            wallFirst = 0;
            wallSize = 0;
            int size = 0;
            for (int k = 0; k < many; k++) {
                if (rows[k].signAt(place) == 0) {
                    size = 0;
                } else {
                    size = size > 0 && goesOn(k, place) ? size + 1 : 1;
                }
                if (size > wallSize) {
                    wallSize = size;
                    wallFirst = k + 1 - size;
                }
            }
        }

        private boolean goesOn(int k, int place) {
            return has(k - 1) && planes.areAlike(k, k - 1) && steps.areAlike(k, k - 1)
                && rows[k].signAt(place) == rows[k - 1].signAt(place);
        }

        int wallTilt(int place, int part) {
            if (wallSize == 0 || !has(wallFirst)) {
                return 0;
            }
            return wallSize * rows[wallFirst].signAt(place) * steps.partOf(wallFirst, part);
        }
    }
}
