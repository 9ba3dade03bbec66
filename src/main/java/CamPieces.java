/** Cams of pieces; what each call answers is told in ../shared/DOC.md, how to use them in README.md. */
public final class CamPieces {
    public static final int NONE = -1, BAD = -2, STATE = -3, FULL = -4;
    public static final long NO = Long.MIN_VALUE;

    private static final int THERE_IS_NONE = -5, NOTHING = -11, BEYOND = -13, BELOW = -14;
    private static final int CANNOT_PUT = -999, NO_PART = -9999, FAULTY = -100, UNFIT = -300;

    private static final int DWELL = 0, LINE = 1, START = 2, STOP = 3, CUBIC = 4, QUINTIC = 5, KINDS = 6;
    private static final int KIND = 0, LONG = 1, RISE = 2;
    private static final int LIFT = 0, SLOPE = 1, BEND = 2;
    private static final int CORNER = 0, ROUGH = 1, SMOOTH = 2;
    private static final int RADIUS = 0, MASS = 1, STIFF = 2, PRELOAD = 3, SPEED = 4, GRID = 5, SETTINGS = 6;
    private static final int UNDERCUT = 0, FLOATS = 1;

    private static final int MOST_PIECES = 12, MOST_TOTAL = 360, MOST_RISE = 99;
    private static final int MOST_STEP = 60, MOST_GENTLE = 999, MOST_ERROR = 9999;
    private static final int MOST_BYTES = 120, MOST_BYTE = 127, LISTS = 4, MOST_PLACES = 30;
    /** All ANGLES, the joins once more, and both ends of a closed cam once more. */
    private static final int MOST_VISITS = MOST_TOTAL + 1 + MOST_PIECES + 2;
    private static final long RADIAN = 57, RADIAN_SQUARE = RADIAN * RADIAN;

    private static final int[] LEAST_SETTINGS = {1, 1, 0, 0, 0, 1};
    private static final int[] MOST_SETTINGS = {999, 20, 99, 9999, 30, 1000};
    private static final int[] FIRST_SETTINGS = {100, 1, 1, 10, 1, 100};

    private final Train train = new Train();
    private final int[] settings = new int[SETTINGS];
    private final Train pictured = new Train();
    private final int[] picturedSettings = new int[SETTINGS];
    private boolean isPictured = false;
    private final Reader reader = new Reader();
    private int latestCause = THERE_IS_NONE;
    private final Rows rows = new Rows();

    /** What follows is room for the reckoning of one call; nothing in it lasts until the next. */
    private final Spot spot = new Spot();
    private final Walk walk = new Walk();
    private final Range range = new Range();
    private final Ratio ratio = new Ratio();
    private final Ratio ratioAhead = new Ratio();
    private final long[] samples = new long[MOST_TOTAL + 1];
    private final int[] corners = new int[MOST_PIECES];

    public CamPieces() {
        copy(FIRST_SETTINGS, settings);
    }

    // ---- pieces

    public int piece(int kind, int length, int rise) {
        if (kind < 0 || kind >= KINDS) return NONE;
        if (!mayBe(kind, length, rise)) return BAD;
        if (train.isFull()) return FULL;
        if (train.total() + length > MOST_TOTAL) return STATE;
        train.append(kind, length, rise);
        return train.size() - 1;
    }

    public int drop() {
        if (train.size() == 0) return STATE;
        train.shorten();
        return train.size();
    }

    public int put(int piece, int what, int v) {
        if (!train.has(piece) || what < KIND || what > RISE) return CANNOT_PUT;
        int kind = what == KIND ? v : train.kindOf(piece);
        int length = what == LONG ? v : train.longOf(piece);
        int rise = what == RISE ? v : train.riseOf(piece);
        if (!mayBe(kind, length, rise)) return CANNOT_PUT;
        if (train.total() - train.longOf(piece) + length > MOST_TOTAL) return CANNOT_PUT;
        int was = train.partOf(piece, what);
        train.write(piece, kind, length, rise);
        return was;
    }

    public int of(int piece, int what) {
        if (!train.has(piece) || what < 0 || what > 4) return NO_PART;
        if (what == 3) return train.beginOf(piece);
        if (what == 4) return train.liftOf(piece);
        return train.partOf(piece, what);
    }

    public int tell(int what, int v) {
        if (what < 0 || what >= SETTINGS) return NONE;
        if (v < pick(LEAST_SETTINGS, what) || v > pick(MOST_SETTINGS, what)) return BAD;
        int was = pick(settings, what);
        store(settings, what, v);
        return was;
    }

    public int told(int what) {
        if (what >= 0 && what < SETTINGS) return pick(settings, what);
        switch (what) {
            case 6: return train.size();
            case 7: return train.total();
            case 8: return train.isClosed() ? 1 : 0;
            case 9: return reader.size();
            default: return NONE;
        }
    }

    public int mirror() {
        train.turn();
        return train.total();
    }

    public int alike(int piece) {
        if (!train.has(piece)) return NONE;
        int n = 0;
        for (int k = 0; k < train.size(); k++) {
            if (train.areAlike(k, piece)) n++;
        }
        return n;
    }

    public int unlike(int k) {
        int n = 0;
        for (int j = 0; j < train.size(); j++) {
            if (!train.isFirstOfItsLike(j)) continue;
            if (n == k) return j;
            n++;
        }
        return k == -1 ? n : NONE;
    }

    public int steepestPiece() {
        int best = THERE_IS_NONE;
        for (int k = 0; k < train.size(); k++) {
            if (best < 0 || train.isSteeper(k, best)) best = k;
        }
        return best;
    }

    // ---- as it is

    public long at(int angle, int side, int what, int part) {
        if (what < LIFT || what > BEND || !isPart(part) || !standAt(angle, side)) return NO;
        long above = what == LIFT ? spot.lift() : what == SLOPE ? spot.slope : spot.bend;
        return lowest(above, spot.below, part);
    }

    public long jump(int join, int what, int part) {
        if (!hasJoin(join) || what < 0 || what > 1 || !isPart(part)) return NO;
        reckonJump(join, what + 1);
        return part == 0 ? ratio.above : ratio.below;
    }

    public int join(int join) {
        return hasJoin(join) ? kindOfJoin(join) : NONE;
    }

    public int joins(int what) {
        if (what < CORNER || what > SMOOTH) return NONE;
        int bits = 0;
        for (int k = 0; k < train.size(); k++) {
            if (hasJoin(k) && kindOfJoin(k) == what) bits |= 1 << k;
        }
        return bits;
    }

    public int extreme(int what) {
        if (what < 0 || what > 1) return NONE;
        if (train.size() == 0) return THERE_IS_NONE;
        // Within a piece LIFT grows or falls throughout, or stays: the ends of the pieces are enough.
        int sign = what == 0 ? 1 : -1;
        int best = 0, angle = 0, lift = 0, bestLift = 0;
        for (int k = 0; k < train.size(); k++) {
            angle += train.longOf(k);
            lift += train.riseOf(k) * sign;
            if (lift > bestLift) {
                bestLift = lift;
                best = angle;
            }
        }
        return best;
    }

    public long curve(int angle, int side, int part) {
        if (!isPart(part) || !standAt(angle, side)) return NO;
        return lowest(curveHere(), spot.below, part);
    }

    public long pressure(int angle, int side, int part) {
        if (!isPart(part) || !standAt(angle, side)) return NO;
        long below = reachHere();
        return below > 0 ? lowest(RADIAN * spot.slope, below, part) : NO;
    }

    public long force(int angle, int side, int part) {
        if (!isPart(part) || !standAt(angle, side)) return NO;
        return lowest(forceHere(), spot.below, part);
    }

    public int count(int what) {
        if (what < UNDERCUT || what > FLOATS) return NONE;
        int n = 0, latest = -1;
        walk.start(train);
        for (int i = 0; i < MOST_VISITS && walk.goOn(train, spot); i++) {
            long here = what == UNDERCUT ? curveHere() : forceHere();
            if (here <= 0 && walk.angle != latest) {
                latest = walk.angle;
                n++;
            }
        }
        return n;
    }

    // ---- in thought

    public int leastRadius() {
        range.open(pick(LEAST_SETTINGS, RADIUS), pick(MOST_SETTINGS, RADIUS));
        walk.start(train);
        for (int i = 0; i < MOST_VISITS && walk.goOn(train, spot); i++) {
            range.keepAboveZero(spot.lift() + RADIAN_SQUARE * spot.bend, spot.below);
        }
        return range.leastOne();
    }

    public int steepest() {
        int best = THERE_IS_NONE;
        walk.start(train);
        for (int i = 0; i < MOST_VISITS && walk.goOn(train, spot); i++) {
            long below = reachHere(), above = Math.abs(spot.slope);
            if (below <= 0) continue;
            if (best < 0 || isMore(above, below, ratio.above, ratio.below)) {
                ratio.become(above, below);
                best = walk.angle;
            }
        }
        return best;
    }

    public int gentle(int n) {
        if (n < 0 || n > MOST_GENTLE) return BAD;
        range.open(pick(LEAST_SETTINGS, RADIUS), pick(MOST_SETTINGS, RADIUS));
        walk.start(train);
        for (int i = 0; i < MOST_VISITS && walk.goOn(train, spot); i++) {
            range.keepAboveZero(spot.lift(), spot.below);
            // All are whole: 1 more makes of "0 or more" "above 0".
            range.keepAboveZero(n * spot.lift() - 100 * RADIAN * Math.abs(spot.slope) + 1, n * spot.below);
        }
        return range.leastOne();
    }

    public int floating() {
        walk.start(train);
        for (int i = 0; i < MOST_VISITS && walk.goOn(train, spot); i++) {
            if (forceHere() <= 0) return walk.angle;
        }
        return THERE_IS_NONE;
    }

    public int leastPreload() {
        range.open(pick(LEAST_SETTINGS, PRELOAD), pick(MOST_SETTINGS, PRELOAD));
        walk.start(train);
        for (int i = 0; i < MOST_VISITS && walk.goOn(train, spot); i++) {
            range.keepAboveZero(springHere() + inertiaHere(), spot.below);
        }
        return range.leastOne();
    }

    public int leastStiff() {
        range.open(pick(LEAST_SETTINGS, STIFF), pick(MOST_SETTINGS, STIFF));
        walk.start(train);
        for (int i = 0; i < MOST_VISITS && walk.goOn(train, spot); i++) {
            range.keepAboveZero(preloadHere() + inertiaHere(), spot.lift());
        }
        return range.leastOne();
    }

    public int fastest() {
        int most = pick(MOST_SETTINGS, SPEED);
        // FORCE grows evenly with the square of SPEED, not with SPEED itself.
        range.open(0, (long) most * most);
        walk.start(train);
        for (int i = 0; i < MOST_VISITS && walk.goOn(train, spot); i++) {
            range.keepAboveZero(preloadHere() + springHere(), setting(MASS) * RADIAN_SQUARE * spot.bend);
        }
        for (int speed = most; speed >= pick(LEAST_SETTINGS, SPEED); speed--) {
            if (range.holds((long) speed * speed)) return speed;
        }
        return THERE_IS_NONE;
    }

    public int smoothed() {
        int may = 0;
        for (int k = 0; k < train.size(); k++) {
            int kind = train.kindOf(k);
            if (kind == LINE || kind == START || kind == STOP || kind == CUBIC) may |= 1 << k;
            store(corners, k, cornersAt(k));
        }
        int best = THERE_IS_NONE, fewest = MOST_PIECES + 1;
        for (int bits = 0; bits < 1 << train.size() && bits < 1 << MOST_PIECES; bits++) {
            if ((bits & ~may) != 0 || Integer.bitCount(bits) >= fewest || hasCorner(bits)) continue;
            best = bits;
            fewest = Integer.bitCount(bits);
        }
        return best;
    }

    // ---- samples

    public long sample(int angle) {
        if (train.size() == 0 || angle < 0 || angle > train.total()) return NO;
        standAt(angle, angle == 0 ? 1 : 0);
        return sampleHere();
    }

    public long error(int step, int part) {
        if (step < 1 || step > MOST_STEP || !isPart(part) || train.size() == 0) return NO;
        takeSamples();
        int total = train.total();
        ratio.become(0, 1);
        for (int angle = 0; angle <= total && angle <= MOST_TOTAL; angle++) {
            long gap = gapAt(angle, step, total), span = spanAt(angle, step, total);
            if (gap * ratio.below > ratio.above * span) ratio.become(gap, span);
        }
        return lowest(ratio.above, ratio.below, part);
    }

    public int widest(int e) {
        if (e < 0 || e > MOST_ERROR) return BAD;
        if (train.size() == 0) return STATE;
        takeSamples();
        for (int step = MOST_STEP; step >= 1; step--) {
            if (isErrorWithin(step, e)) return step;
        }
        return THERE_IS_NONE;
    }

    public int lay(int list, int i, int angle, int step, int n) {
        if (!rows.mayHave(list)) return NONE;
        if (!rows.has(list)) return NOTHING;
        if (n < 0 || n > MOST_PLACES || !areAngles(angle, step, n)) return BAD;
        for (int k = 0; k < n && i >= 0 && i <= MOST_PLACES; k++) {
            if (rows.hasPlace(list, i + k)) rows.write(list, i + k, sample(angle + k * step));
        }
        return rows.hasPlaces(list, i, n) ? n : BEYOND;
    }

    public int seen(int list, int i, int n, int piece) {
        if (!rows.mayHave(list) || !train.has(piece)) return NONE;
        if (!rows.has(list)) return NOTHING;
        if (n < 1 || n > MOST_PLACES || n > train.longOf(piece) + 1) return BAD;
        if (!rows.hasPlaces(list, i, n)) return BEYOND;
        int bits = 0;
        for (int kind = 0; kind < KINDS; kind++) {
            if (isSeenBy(kind, list, i, n, piece)) bits |= 1 << kind;
        }
        return bits;
    }

    // ---- cams as texts

    public int feed(int letter) {
        if (letter < 1 || letter > MOST_BYTE) return BAD;
        if (reader.size() >= MOST_BYTES) return FULL;
        reader.append(letter);
        return reader.size();
    }

    public int clear() {
        int n = reader.size();
        reader.empty();
        return n;
    }

    public int cam() {
        boolean isText = reader.readTape();
        reader.empty();
        if (!isText || reader.unfit >= 0) {
            latestCause = reader.cause;
            return isText ? UNFIT - reader.unfit : FAULTY - reader.fault;
        }
        train.become(reader.read);
        return train.size();
    }

    public int cause() {
        return latestCause;
    }

    // ---- rows, the image

    public int list(int list, int n) {
        if (!rows.mayHave(list)) return NONE;
        if (n > MOST_PLACES) return BAD;
        if (n < 0) return BELOW;
        rows.make(list, n);
        return 1;
    }

    public int set(int list, int i, long v) {
        if (!rows.mayHave(list)) return NONE;
        if (!rows.has(list)) return NOTHING;
        if (!rows.hasPlace(list, i)) return BEYOND;
        rows.write(list, i, v);
        return 1;
    }

    public long get(int list, int i) {
        return rows.hasPlace(list, i) ? rows.read(list, i) : NO;
    }

    public int image() {
        pictured.become(train);
        copy(settings, picturedSettings);
        isPictured = true;
        return train.size();
    }

    public int undo() {
        if (!isPictured) return STATE;
        train.become(pictured);
        copy(picturedSettings, settings);
        return train.size();
    }

    // ---- where the spot stands

    /** Puts the spot to an angle as seen from a side; false where there is nothing. */
    private boolean standAt(int angle, int side) {
        int size = train.size(), total = train.total();
        if (size == 0 || angle < 0 || angle > total || side < 0 || side > 1) return false;
        if (angle == 0 && side == 0) return train.isClosed() && standIn(size - 1, train.longOf(size - 1));
        if (angle == total && side == 1) return train.isClosed() && standIn(0, 0);
        int begin = 0;
        for (int k = 0; k < size; k++) {
            int u = angle - begin, length = train.longOf(k);
            boolean isHere = side == 0 ? u > 0 && u <= length : u >= 0 && u < length;
            if (isHere) return standIn(k, u);
            begin += length;
        }
        return false;
    }

    private boolean standIn(int k, int u) {
        spot.stand(train.kindOf(k), train.longOf(k), train.riseOf(k), train.liftOf(k), u);
        return true;
    }

    private long setting(int what) {
        return pick(settings, what);
    }

    /** RADIUS and LIFT, over what is below the line here. */
    private long reachHere() {
        return setting(RADIUS) * spot.below + spot.lift();
    }

    private long curveHere() {
        return reachHere() + RADIAN_SQUARE * spot.bend;
    }

    private long preloadHere() {
        return setting(PRELOAD) * spot.below;
    }

    private long springHere() {
        return setting(STIFF) * spot.lift();
    }

    private long inertiaHere() {
        return setting(MASS) * setting(SPEED) * setting(SPEED) * RADIAN_SQUARE * spot.bend;
    }

    private long forceHere() {
        return preloadHere() + springHere() + inertiaHere();
    }

    // ---- joins

    private boolean hasJoin(int join) {
        return join == 0 ? train.isClosed() : train.has(join);
    }

    private int pieceAhead(int join) {
        return join == 0 ? train.size() - 1 : join - 1;
    }

    /** Reckons by how much SLOPE or BEND jumps at a join that is there; the ratio holds it then. */
    private void reckonJump(int join, int what) {
        int ahead = pieceAhead(join);
        standIn(ahead, train.longOf(ahead));
        ratioAhead.become(what == SLOPE ? spot.slope : spot.bend, spot.below);
        // At the ends of a piece lowest terms have LONG times LONG at most below the line: the products stay small.
        ratioAhead.lower();
        standIn(join, 0);
        ratio.become(what == SLOPE ? spot.slope : spot.bend, spot.below);
        ratio.lower();
        ratio.take(ratioAhead);
        ratio.lower();
    }

    private int kindOfJoin(int join) {
        reckonJump(join, SLOPE);
        if (ratio.above != 0) return CORNER;
        reckonJump(join, BEND);
        return ratio.above != 0 ? ROUGH : SMOOTH;
    }

    /** Four bits: whether a join is a corner, bit 2 times (the piece ahead is smoothed) and (the one behind is). */
    private int cornersAt(int join) {
        if (!hasJoin(join)) return 0;
        reckonJump(join, SLOPE);
        boolean jumps = ratio.above != 0;
        int ahead = pieceAhead(join);
        standIn(ahead, train.longOf(ahead));
        boolean slopesAhead = spot.slope != 0;
        standIn(join, 0);
        boolean slopesBehind = spot.slope != 0;
        return (jumps ? 1 : 0) | (slopesAhead ? 2 : 0) | (slopesBehind ? 4 : 0);
    }

    private boolean hasCorner(int smoothedBits) {
        for (int k = 0; k < train.size(); k++) {
            int which = 2 * (smoothedBits >> pieceAhead(k) & 1) + (smoothedBits >> k & 1);
            if ((pick(corners, k) >> which & 1) != 0) return true;
        }
        return false;
    }

    // ---- samples, seen from within

    private long sampleHere() {
        return spot.sampled(setting(GRID));
    }

    private void takeSamples() {
        walk.start(train);
        for (int i = 0; i < MOST_VISITS && walk.goOn(train, spot); i++) {
            if (walk.angle >= 0 && walk.angle < samples.length) samples[walk.angle] = sampleHere();
        }
    }

    private long sampleAt(int angle) {
        return angle >= 0 && angle < samples.length ? samples[angle] : 0;
    }

    /** How far the line goes that stands above an angle: a step, or less of it at the end; 1 where there is no line. */
    private static int spanAt(int angle, int step, int total) {
        if (step < 1) return 1;
        int from = angle - angle % step;
        return Math.max(1, Math.min(step, total - from));
    }

    /** The difference between the line and the sample at an angle, times the span there. */
    private long gapAt(int angle, int step, int total) {
        if (step < 1) return 0;
        int from = angle - angle % step, span = spanAt(angle, step, total), to = Math.min(from + span, total);
        long line = sampleAt(from) * span + (sampleAt(to) - sampleAt(from)) * (angle - from);
        return Math.abs(line - sampleAt(angle) * span);
    }

    private boolean isErrorWithin(int step, int hundredths) {
        int total = train.total();
        for (int angle = 0; angle <= total && angle <= MOST_TOTAL; angle++) {
            if (100 * gapAt(angle, step, total) > (long) hundredths * spanAt(angle, step, total)) return false;
        }
        return true;
    }

    /** Whether the first angle is there (for n 0, too), the step may be, and the last angle is there. */
    private boolean areAngles(int angle, int step, int n) {
        int total = train.total();
        if (train.size() == 0 || angle < 0 || angle > total || step < 1 || step > MOST_STEP) return false;
        return n == 0 || angle + (n - 1) * step <= total;
    }

    private boolean isSeenBy(int kind, int list, int i, int n, int piece) {
        int length = train.longOf(piece), rise = train.riseOf(piece), base = train.liftOf(piece);
        for (int u = 0; u < n && u <= MOST_PLACES; u++) {
            spot.stand(kind, length, rise, base, u);
            if (rows.read(list, i + u) != sampleHere()) return false;
        }
        return true;
    }

    // ---- small helps

    private static boolean mayBe(int kind, int length, int rise) {
        if (kind < 0 || kind >= KINDS || length < 1 || length > MOST_TOTAL) return false;
        return rise >= -MOST_RISE && rise <= MOST_RISE && (kind == DWELL) == (rise == 0);
    }

    private static boolean isPart(int part) {
        return part == 0 || part == 1;
    }

    private static int pick(int[] row, int i) {
        return i >= 0 && i < row.length ? row[i] : 0;
    }

    private static void store(int[] row, int i, int v) {
        if (i >= 0 && i < row.length) row[i] = v;
    }

    private static void copy(int[] from, int[] to) {
        for (int i = 0; i < from.length; i++) store(to, i, pick(from, i));
    }

    private static long commonDivisor(long a, long b) {
        long x = Math.abs(a), y = Math.abs(b);
        // Two rounds at least halve it: a long is through behind 128 of them.
        for (int i = 0; i < 200 && y != 0; i++) {
            long rest = x % y;
            x = y;
            y = rest;
        }
        return x;
    }

    private static long lowest(long above, long below, int part) {
        long divisor = commonDivisor(above, below);
        if (divisor == 0) return NO;
        return part == 0 ? above / divisor : below / divisor;
    }

    /**
     * Whether a by b is more than c by d (a, c 0 or more; b, d above 0).
     * The products would not fit into a long: the whole parts are compared, then the rests turned over.
     */
    private static boolean isMore(long a, long b, long c, long d) {
        for (int i = 0; i < 100 && b > 0 && d > 0; i++) {
            long whole = a / b, otherWhole = c / d;
            if (whole != otherWhole) return whole > otherWhole;
            long rest = a % b, otherRest = c % d;
            if (rest == 0 || otherRest == 0) return rest > otherRest;
            a = d;
            c = b;
            b = otherRest;
            d = rest;
        }
        return false;
    }

    /** A fraction. */
    private static final class Ratio {
        private long above = 0, below = 1;

        void become(long newAbove, long newBelow) {
            above = newAbove;
            below = newBelow;
        }

        void lower() {
            long divisor = commonDivisor(above, below);
            if (divisor == 0) return;
            above /= divisor;
            below /= divisor;
        }

        void take(Ratio other) {
            above = above * other.below - other.above * below;
            below = below * other.below;
        }
    }

    /** The whole numbers, of some, by which all that was asked for is so. */
    private static final class Range {
        private long least = 0, most = 0;
        private boolean isEmpty = false;

        void open(long from, long to) {
            least = from;
            most = to;
            isEmpty = false;
        }

        /** Keeps the numbers x by which a + b x is above 0. */
        void keepAboveZero(long a, long b) {
            if (b > 0) {
                least = Math.max(least, Math.floorDiv(-a, b) + 1);
            } else if (b < 0) {
                most = Math.min(most, -Math.floorDiv(-a, -b) - 1);
            } else if (a <= 0) {
                isEmpty = true;
            }
        }

        boolean holds(long x) {
            return !isEmpty && x >= least && x <= most;
        }

        int leastOne() {
            return holds(least) ? (int) least : THERE_IS_NONE;
        }
    }

    /**
     * A place in a piece: lift, slope and bend there, over one number below the line.
     * LONG to the fifth is 6.1e12, LIFT 1188 at most (with LONG 349 then): each product of these stays in a long.
     */
    private static final class Spot {
        private long below = 1, gain = 0, slope = 0, bend = 0, base = 0;

        long lift() {
            return base * below + gain;
        }

        /** To the nearest whole, upwards from the middle; without the base, which is whole, to stay in a long. */
        long sampled(long grid) {
            return below > 0 ? base * grid + Math.floorDiv(2 * grid * gain + below, 2 * below) : 0;
        }

        void stand(int kind, long length, long rise, long liftAhead, long u) {
            base = liftAhead;
            switch (kind) {
                case LINE:
                    write(length, rise * u, rise, 0);
                    break;
                case START:
                    write(length * length, rise * u * u, 2 * rise * u, 2 * rise);
                    break;
                case STOP:
                    write(length * length, rise * u * (2 * length - u), 2 * rise * (length - u), -2 * rise);
                    break;
                case CUBIC:
                    standInCubic(length, rise, u);
                    break;
                case QUINTIC:
                    standInQuintic(length, rise, u);
                    break;
                default:
                    write(1, 0, 0, 0);
                    break;
            }
        }

        private void standInCubic(long length, long rise, long u) {
            write(length * length * length, rise * u * u * (3 * length - 2 * u),
                6 * rise * u * (length - u), 6 * rise * (length - 2 * u));
        }

        private void standInQuintic(long length, long rise, long u) {
            long square = length * length, left = length - u;
            write(square * square * length, rise * u * u * u * (10 * square - 15 * u * length + 6 * u * u),
                30 * rise * u * u * left * left, 60 * rise * u * left * (left - u));
        }

        private void write(long newBelow, long newGain, long newSlope, long newBend) {
            below = newBelow;
            gain = newGain;
            slope = newSlope;
            bend = newBend;
        }
    }

    /** Goes through the angles, both sides, side 0 ahead; where both sides are one place, once. */
    private static final class Walk {
        private int angle = 0, index = 0, begin = 0, base = 0, u = 0;
        private boolean isClosed = false;

        void start(Train train) {
            isClosed = train.isClosed();
            // Ahead of the first piece, angle 0 of a closed cam is seen from the last one.
            index = isClosed ? -1 : 0;
            angle = 0;
            begin = 0;
            base = 0;
            u = 0;
        }

        boolean goOn(Train train, Spot spot) {
            if (index < 0) {
                int last = train.size() - 1;
                stand(train, spot, last, -train.riseOf(last), train.longOf(last));
                index = 0;
                return true;
            }
            if (index < train.size()) {
                angle = begin + u;
                stand(train, spot, index, base, u);
                stepOn(train.longOf(index), train.riseOf(index));
                return true;
            }
            if (!isClosed || index > train.size()) return false;
            // Behind the last piece, the last angle is seen from the first one.
            stand(train, spot, 0, 0, 0);
            index++;
            return true;
        }

        private static void stand(Train train, Spot spot, int k, int liftAhead, int u) {
            spot.stand(train.kindOf(k), train.longOf(k), train.riseOf(k), liftAhead, u);
        }

        private void stepOn(int length, int rise) {
            u++;
            if (u <= length) return;
            u = 0;
            begin += length;
            base += rise;
            index++;
        }
    }

    /** The pieces, one behind the other. */
    private static final class Train {
        private final int[] kinds = new int[MOST_PIECES];
        private final int[] longs = new int[MOST_PIECES];
        private final int[] rises = new int[MOST_PIECES];
        private int size = 0;

        int size() {
            return size;
        }

        boolean isFull() {
            return size >= MOST_PIECES;
        }

        boolean has(int k) {
            return k >= 0 && k < size;
        }

        int kindOf(int k) {
            return k >= 0 && k < kinds.length ? kinds[k] : DWELL;
        }

        int longOf(int k) {
            return k >= 0 && k < longs.length ? longs[k] : 0;
        }

        int riseOf(int k) {
            return k >= 0 && k < rises.length ? rises[k] : 0;
        }

        int partOf(int k, int what) {
            return what == KIND ? kindOf(k) : what == LONG ? longOf(k) : riseOf(k);
        }

        int beginOf(int k) {
            int sum = 0;
            for (int j = 0; j < k && j < size; j++) sum += longOf(j);
            return sum;
        }

        int liftOf(int k) {
            int sum = 0;
            for (int j = 0; j < k && j < size; j++) sum += riseOf(j);
            return sum;
        }

        int total() {
            return beginOf(size);
        }

        boolean isClosed() {
            return total() == MOST_TOTAL && liftOf(size) == 0;
        }

        void empty() {
            size = 0;
        }

        void append(int kind, int length, int rise) {
            if (isFull()) return;
            write(size, kind, length, rise);
            size++;
        }

        void shorten() {
            if (size > 0) size--;
        }

        void write(int k, int kind, int length, int rise) {
            store(kinds, k, kind);
            store(longs, k, length);
            store(rises, k, rise);
        }

        void become(Train other) {
            copy(other.kinds, kinds);
            copy(other.longs, longs);
            copy(other.rises, rises);
            size = other.size;
        }

        void turn() {
            for (int a = 0, b = size - 1; a <= b; a++, b--) {
                int kind = kindOf(a), length = longOf(a), rise = riseOf(a);
                write(a, turnedKind(kindOf(b)), longOf(b), -riseOf(b));
                write(b, turnedKind(kind), length, -rise);
            }
        }

        private static int turnedKind(int kind) {
            return kind == START ? STOP : kind == STOP ? START : kind;
        }

        boolean areAlike(int j, int k) {
            return kindOf(j) == kindOf(k) && longOf(j) == longOf(k) && riseOf(j) == riseOf(k);
        }

        boolean isFirstOfItsLike(int k) {
            for (int j = 0; j < k && j < size; j++) {
                if (areAlike(j, k)) return false;
            }
            return true;
        }

        boolean isSteeper(int j, int k) {
            return Math.abs(riseOf(j)) * longOf(k) > Math.abs(riseOf(k)) * longOf(j);
        }
    }

    /** The lists; a size below 0 is that of a list that holds nothing. */
    private static final class Rows {
        private final long[] places = new long[LISTS * MOST_PLACES];
        private final int[] sizes = {-1, -1, -1, -1};

        boolean mayHave(int row) {
            return row >= 0 && row < LISTS;
        }

        boolean has(int row) {
            return mayHave(row) && pick(sizes, row) >= 0;
        }

        boolean hasPlace(int row, int i) {
            return has(row) && i >= 0 && i < pick(sizes, row);
        }

        /** Whether n places from i on are there; no place is, wherever i is. */
        boolean hasPlaces(int row, int i, int n) {
            return n == 0 || i >= 0 && i <= pick(sizes, row) - n;
        }

        void make(int row, int n) {
            store(sizes, row, n);
            for (int i = 0; i < n && i < MOST_PLACES; i++) write(row, i, 0);
        }

        long read(int row, int i) {
            int place = row * MOST_PLACES + i;
            return hasPlace(row, i) && place >= 0 && place < places.length ? places[place] : NO;
        }

        void write(int row, int i, long v) {
            int place = row * MOST_PLACES + i;
            if (hasPlace(row, i) && place >= 0 && place < places.length) places[place] = v;
        }
    }

    /** The tape, and what is read from it. */
    private static final class Reader {
        private static final int A_WORD = 1, A_LONG = 2, A_RISE = 3, A_BYTE = 4, THE_END = 5, PIECE_13 = 6, TOTAL = 7;

        private final int[] bytes = new int[MOST_BYTES];
        private int size = 0;
        private final Train read = new Train();
        private int place = 0, pieces = 0, fault = -1, unfit = -1, cause = THERE_IS_NONE;

        int size() {
            return size;
        }

        void append(int letter) {
            if (size >= MOST_BYTES) return;
            store(bytes, size, letter);
            size++;
        }

        void empty() {
            size = 0;
        }

        /** Whether the tape is a text of pieces; fault and unfit (-1: none), cause and read say what came of it. */
        boolean readTape() {
            place = 0;
            pieces = 0;
            fault = -1;
            unfit = -1;
            read.empty();
            for (int i = 0; i <= MOST_BYTES && readPiece(); i++) {
                if (place == size) return true;
                if (byteHere() != ';') return fail(place, A_BYTE);
                place++;
            }
            return false;
        }

        private boolean readPiece() {
            int wordBegin = place, kind = readKind();
            if (kind < 0) return fail(wordBegin, A_WORD);
            if (!readBlank()) return false;
            int longBegin = place, length = readFigures(3);
            if (length < 1 || length > MOST_TOTAL) return fail(longBegin, A_LONG);
            int rise = 0;
            if (kind != DWELL) {
                if (!readBlank()) return false;
                int riseBegin = place;
                rise = readRise();
                if (rise == 0) return fail(riseBegin, A_RISE);
            }
            keep(kind, length, rise);
            return true;
        }

        private int byteHere() {
            return place < size ? pick(bytes, place) : -1;
        }

        private boolean fail(int where, int why) {
            fault = where;
            cause = where == size ? THE_END : why;
            return false;
        }

        /** The kind whose word stands here; -1, if it is none. */
        private int readKind() {
            int begin = place;
            for (int i = 0; i < MOST_BYTES && byteHere() >= 'a' && byteHere() <= 'z'; i++) place++;
            for (int kind = 0; kind < KINDS; kind++) {
                if (isWord(begin, place - begin, wordOf(kind))) return kind;
            }
            return -1;
        }

        private boolean isWord(int begin, int length, String word) {
            if (length != word.length()) return false;
            for (int i = 0; i < length && i < word.length(); i++) {
                if (pick(bytes, begin + i) != word.charAt(i)) return false;
            }
            return true;
        }

        private static String wordOf(int kind) {
            switch (kind) {
                case DWELL: return "dwell";
                case LINE: return "line";
                case START: return "start";
                case STOP: return "stop";
                case CUBIC: return "cubic";
                default: return "quintic";
            }
        }

        private boolean readBlank() {
            if (byteHere() != ' ') return fail(place, A_BYTE);
            place++;
            return true;
        }

        /** The number that as many figures tell as stand here, but no more than told; 0 without any. */
        private int readFigures(int most) {
            int number = 0;
            for (int i = 0; i < most && byteHere() >= '0' && byteHere() <= '9'; i++) {
                number = number * 10 + byteHere() - '0';
                place++;
            }
            return number;
        }

        private int readRise() {
            boolean isBelow = byteHere() == '-';
            if (isBelow) place++;
            int number = readFigures(2);
            return isBelow ? -number : number;
        }

        private void keep(int kind, int length, int rise) {
            if (unfit < 0 && read.isFull()) {
                unfit = pieces;
                cause = PIECE_13;
            } else if (unfit < 0 && read.total() + length > MOST_TOTAL) {
                unfit = pieces;
                cause = TOTAL;
            }
            if (unfit < 0) read.append(kind, length, rise);
            pieces++;
        }
    }
}
