/** For each promise: ordinary calls, the edges that the document names, and wrong numbers. */
public final class PromiseTests {
    private static final int DWELL = 0, LINE = 1, START = 2, STOP = 3, CUBIC = 4, QUINTIC = 5;
    private static final int LOW = Integer.MIN_VALUE, HIGH = Integer.MAX_VALUE;
    private static final long NO = Long.MIN_VALUE;

    private final Checks checks;

    private PromiseTests(Checks checks) {
        this.checks = checks;
    }

    public static void main(String[] args) {
        Checks checks = new Checks("promises");
        PromiseTests t = new PromiseTests(checks);
        t.p01NewObject(); t.p02Piece(); t.p03Drop(); t.p04Put(); t.p05Of(); t.p06Tell(); t.p07Told();
        t.p08Mirror(); t.p09Alike(); t.p10Unlike(); t.p11SteepestPiece(); t.p12At(); t.p12AtByKind(); t.p12Sides();
        t.p13Jump(); t.p14Join(); t.p15Joins(); t.p16Extreme(); t.p17Curve(); t.p18Pressure(); t.p19Force();
        t.p20Count(); t.p21LeastRadius(); t.p22Steepest(); t.p23Gentle(); t.p24Floating(); t.p25LeastPreload();
        t.p26LeastStiff(); t.p27Fastest(); t.p28Smoothed(); t.p29Sample(); t.p30Error(); t.p31Widest(); t.p32Lay();
        t.p33Seen(); t.p34Feed(); t.p35Clear(); t.p36CamTexts(); t.p36CamFaults(); t.p36CamUnfit(); t.p37Cause();
        t.p38List(); t.p39Set(); t.p40Get(); t.p41Image(); t.p42Undo(); t.askedChangesNothing();
        checks.end();
    }

    private void due(String call, long got, long want) {
        checks.due(call, got, want);
    }

    /** A cam of KIND, LONG, RISE, KIND, LONG, RISE, .. */
    private static CamPieces cam(int... parts) {
        CamPieces cam = new CamPieces();
        for (int i = 0; i + 2 < parts.length; i += 3) {
            if (cam.piece(parts[i], parts[i + 1], parts[i + 2]) != i / 3) throw new IllegalStateException("piece " + i / 3);
        }
        return cam;
    }

    private static void feed(CamPieces cam, String text) {
        cam.clear();
        for (int i = 0; i < text.length(); i++) cam.feed(text.charAt(i));
    }

    private void dueFraction(String call, long above, long below, long wantAbove, long wantBelow) {
        due(call + ", above", above, wantAbove);
        due(call + ", below", below, wantBelow);
    }

    private void dueAt(CamPieces x, int angle, int side, int what, long above, long below) {
        String call = "at(" + angle + ", " + side + ", " + what + ")";
        dueFraction(call, x.at(angle, side, what, 0), x.at(angle, side, what, 1), above, below);
    }

    private void dueJump(CamPieces x, int join, int what, long above, long below) {
        dueFraction("jump(" + join + ", " + what + ")", x.jump(join, what, 0), x.jump(join, what, 1), above, below);
    }

    private void dueNumbers(String call, long[] got, long... want) {
        for (int i = 0; i < want.length; i++) due(call + " [" + i + "]", got[i], want[i]);
    }

    private static long[] row(CamPieces x, int list, int n) {
        long[] row = new long[n];
        for (int i = 0; i < n; i++) row[i] = x.get(list, i);
        return row;
    }

    /** All parts of all pieces: KIND, LONG, RISE, .. */
    private static long[] parts(CamPieces x) {
        long[] parts = new long[3 * x.told(6)];
        for (int i = 0; i < parts.length; i++) parts[i] = x.of(i / 3, i % 3);
        return parts;
    }

    private void duePieces(CamPieces x, long... want) {
        due("pieces", x.told(6), want.length / 3);
        dueNumbers("piece parts", parts(x), want);
    }

    private void p01NewObject() {
        CamPieces x = new CamPieces();
        dueNumbers("told", new long[] {x.told(0), x.told(1), x.told(2), x.told(3), x.told(4), x.told(5), x.told(6),
            x.told(7), x.told(8), x.told(9)}, 100, 1, 1, 10, 1, 100, 0, 0, 0, 0);
        due("of", x.of(0, 0), -9999);
        due("get", x.get(0, 0), NO);
        due("undo", x.undo(), -3);
        due("cause", x.cause(), -5);
        CamPieces y = cam(LINE, 10, 5);
        y.tell(0, 5);
        due("one knows nothing of another", new CamPieces().told(6) * 1000 + new CamPieces().told(0), 100);
    }

    private void p02Piece() {
        CamPieces x = new CamPieces();
        for (int kind : new int[] {-1, 6, LOW, HIGH}) due("kind " + kind, x.piece(kind, 0, 100), -1);
        for (int length : new int[] {0, -1, 361, LOW, HIGH}) due("length " + length, x.piece(LINE, length, 1), -2);
        for (int rise : new int[] {0, -100, 100, LOW, HIGH}) due("rise " + rise, x.piece(QUINTIC, 1, rise), -2);
        for (int rise : new int[] {1, -1, 100}) due("dwell " + rise, x.piece(DWELL, 1, rise), -2);
        due("all", x.piece(DWELL, 360, 0), 0);
        due("none left", x.piece(DWELL, 1, 0), -3);
        due("BAD ahead of STATE", x.piece(LINE, 1, 0), -2);
        due("nothing changed", x.told(6), 1);
        x = new CamPieces();
        due("line", x.piece(LINE, 300, 99), 0);
        due("61", x.piece(LINE, 61, -99), -3);
        due("60", x.piece(LINE, 60, -99), 1);
        due("total", x.told(7), 360);
        x = new CamPieces();
        for (int k = 0; k < 12; k++) due("piece " + k, x.piece(k % 6, 30, k % 6 == 0 ? 0 : k), k);
        due("FULL ahead of STATE", x.piece(LINE, 1, 1), -4);
        due("BAD ahead of FULL", x.piece(LINE, 1, 0), -2);
        due("NONE ahead of BAD", x.piece(6, 1, 0), -1);
        x = cam(LINE, 1, 1, LINE, 1, 1, LINE, 1, 1, LINE, 1, 1, LINE, 1, 1, LINE, 1, 1, LINE, 1, 1, LINE, 1, 1, LINE, 1, 1,
            LINE, 1, 1, LINE, 1, 1, LINE, 1, 1);
        due("FULL, though there is room", x.piece(LINE, 1, 1), -4);
    }

    private void p03Drop() {
        CamPieces x = new CamPieces();
        due("none", x.drop(), -3);
        x = cam(LINE, 10, 5, CUBIC, 20, -5);
        due("first", x.drop(), 1);
        duePieces(x, LINE, 10, 5);
        due("second", x.drop(), 0);
        due("none left", x.drop(), -3);
        due("total", x.told(7), 0);
        due("begins anew", x.piece(LINE, 360, 3), 0);
    }

    private void p04Put() {
        CamPieces x = cam(LINE, 10, 5, DWELL, 20, 0, CUBIC, 30, -99);
        due("kind", x.put(0, 0, QUINTIC), LINE);
        due("length", x.put(0, 1, 310), 10);
        due("rise", x.put(0, 2, -99), 5);
        due("rise again", x.put(2, 2, 99), -99);
        duePieces(x, QUINTIC, 310, -99, DWELL, 20, 0, CUBIC, 30, 99);
        due("total 361", x.put(1, 1, 21), -999);
        due("total above", x.put(1, 1, 360), -999);
        due("dwell with a rise", x.put(1, 2, 1), -999);
        due("dwell to line", x.put(1, 0, LINE), -999);
        due("line to dwell", x.put(0, 0, DWELL), -999);
        due("rise 0", x.put(0, 2, 0), -999);
        for (int v : new int[] {-1, 6, LOW, HIGH}) due("kind " + v, x.put(0, 0, v), -999);
        for (int v : new int[] {0, -1, 361, LOW, HIGH}) due("length " + v, x.put(0, 1, v), -999);
        for (int v : new int[] {100, -100, LOW, HIGH}) due("rise " + v, x.put(0, 2, v), -999);
        for (int k : new int[] {-1, 3, 12, LOW, HIGH}) due("piece " + k, x.put(k, 1, 5), -999);
        for (int what : new int[] {-1, 3, LOW, HIGH}) due("what " + what, x.put(0, what, 5), -999);
        due("the same", x.put(1, 0, DWELL), DWELL);
        due("rise 0 of a dwell", x.put(1, 2, 0), 0);
        duePieces(x, QUINTIC, 310, -99, DWELL, 20, 0, CUBIC, 30, 99);
        due("one may have all", cam(LINE, 10, 5).put(0, 1, 360), 10);
    }

    private void p05Of() {
        CamPieces x = cam(START, 10, 5, STOP, 20, -8, DWELL, 30, 0);
        dueNumbers("of 1", new long[] {x.of(1, 0), x.of(1, 1), x.of(1, 2), x.of(1, 3), x.of(1, 4)}, STOP, 20, -8, 10, 5);
        dueNumbers("of 2", new long[] {x.of(2, 0), x.of(2, 1), x.of(2, 2), x.of(2, 3), x.of(2, 4)}, 0, 30, 0, 30, -3);
        dueNumbers("of 0", new long[] {x.of(0, 3), x.of(0, 4)}, 0, 0);
        for (int k : new int[] {-1, 3, 12, LOW, HIGH}) due("piece " + k, x.of(k, 0), -9999);
        for (int what : new int[] {-1, 5, LOW, HIGH}) due("what " + what, x.of(0, what), -9999);
        x.drop();
        due("dropped", x.of(2, 0), -9999);
    }

    private void p06Tell() {
        int[] first = {100, 1, 1, 10, 1, 100}, least = {1, 1, 0, 0, 0, 1}, most = {999, 20, 99, 9999, 30, 1000};
        CamPieces x = new CamPieces();
        for (int what = 0; what < 6; what++) {
            due("too low " + what, x.tell(what, least[what] - 1), -2);
            due("too high " + what, x.tell(what, most[what] + 1), -2);
            due("far too low " + what, x.tell(what, LOW), -2);
            due("far too high " + what, x.tell(what, HIGH), -2);
            due("unchanged " + what, x.told(what), first[what]);
            due("least " + what, x.tell(what, least[what]), first[what]);
            due("most " + what, x.tell(what, most[what]), least[what]);
            due("told " + what, x.told(what), most[what]);
        }
        for (int what : new int[] {-1, 6, LOW, HIGH}) due("what " + what, x.tell(what, -1), -1);
    }

    private void p07Told() {
        CamPieces x = cam(LINE, 180, 9, LINE, 180, -9);
        feed(x, "ab");
        dueNumbers("told", new long[] {x.told(6), x.told(7), x.told(8), x.told(9)}, 2, 360, 1, 2);
        x.put(1, 2, -8);
        due("rises aren't 0 together", x.told(8), 0);
        x.put(1, 2, -9);
        x.put(1, 1, 179);
        due("total isn't 360", x.told(8), 0);
        due("total", x.told(7), 359);
        for (int what : new int[] {-1, 10, LOW, HIGH}) due("what " + what, x.told(what), -1);
        due("one dwell", cam(DWELL, 360, 0).told(8), 1);
    }

    private void p08Mirror() {
        due("none", new CamPieces().mirror(), 0);
        CamPieces x = cam(START, 10, 5, DWELL, 20, 0, STOP, 30, -8, LINE, 40, 1);
        due("even", x.mirror(), 100);
        duePieces(x, LINE, 40, -1, START, 30, 8, DWELL, 20, 0, STOP, 10, -5);
        x.drop();
        due("odd", x.mirror(), 90);
        duePieces(x, DWELL, 20, 0, STOP, 30, -8, LINE, 40, 1);
        x = cam(START, 10, 5);
        due("one", x.mirror(), 10);
        duePieces(x, STOP, 10, -5);
        x = cam(CUBIC, 10, 5, QUINTIC, 11, 6);
        x.mirror();
        duePieces(x, QUINTIC, 11, -6, CUBIC, 10, -5);
        x = cam(START, 10, 5, QUINTIC, 20, -9);
        x.mirror();
        dueAt(x, 20, 0, 0, 9, 1);
        dueAt(x, 25, 0, 0, 9 * 4 - 15, 4);
    }

    private void p09Alike() {
        CamPieces x = cam(LINE, 10, 5, LINE, 10, -5, LINE, 10, 5, START, 10, 5, LINE, 11, 5, LINE, 10, 5);
        due("three", x.alike(2), 3);
        due("other rise", x.alike(1), 1);
        x.drop();
        due("a dropped one counts no more", x.alike(2), 2);
        x.piece(LINE, 10, 5);
        due("other kind", x.alike(3), 1);
        due("other length", x.alike(4), 1);
        for (int k : new int[] {-1, 6, 12, LOW, HIGH}) due("piece " + k, x.alike(k), -1);
        due("no pieces", new CamPieces().alike(0), -1);
    }

    private void p10Unlike() {
        CamPieces x = cam(LINE, 10, 5, LINE, 10, 5, LINE, 10, 4, LINE, 10, 5, DWELL, 10, 0, LINE, 10, 4, CUBIC, 10, 4);
        dueNumbers("unlike", new long[] {x.unlike(-1), x.unlike(0), x.unlike(1), x.unlike(2), x.unlike(3)}, 4, 0, 2, 4, 6);
        for (int k : new int[] {-2, 4, 7, LOW, HIGH}) due("k " + k, x.unlike(k), -1);
        due("none", new CamPieces().unlike(-1), 0);
        due("none, first", new CamPieces().unlike(0), -1);
    }

    private void p11SteepestPiece() {
        due("none", new CamPieces().steepestPiece(), -5);
        due("dwells", cam(DWELL, 10, 0, DWELL, 5, 0).steepestPiece(), 0);
        due("by length", cam(LINE, 10, 5, LINE, 3, 2, LINE, 90, 40).steepestPiece(), 1);
        due("without sign", cam(LINE, 10, 5, LINE, 10, -6).steepestPiece(), 1);
        due("the first of several", cam(DWELL, 9, 0, LINE, 10, 5, LINE, 20, -10, QUINTIC, 2, 1).steepestPiece(), 1);
    }

    private void p12At() {
        CamPieces x = cam(LINE, 30, 7, QUINTIC, 10, -4);
        dueAt(x, 10, 0, 0, 7, 3);
        dueAt(x, 30, 0, 1, 7, 30);
        dueAt(x, 30, 1, 1, 0, 1);
        dueAt(x, 35, 0, 0, 5, 1);
        dueAt(x, 35, 1, 1, -3, 4);
        dueAt(x, 35, 1, 2, 0, 1);
        dueAt(x, 40, 0, 0, 3, 1);
        dueAt(x, 0, 1, 0, 0, 1);
        for (int part = 0; part < 2; part++) {
            due("side 0 of 0", x.at(0, 0, 0, part), NO);
            due("side 1 of total", x.at(40, 1, 0, part), NO);
        }
        for (int angle : new int[] {-1, 41, 360, 361, LOW, HIGH}) due("angle " + angle, x.at(angle, 0, 0, 1), NO);
        for (int side : new int[] {-1, 2, LOW, HIGH}) due("side " + side, x.at(10, side, 0, 1), NO);
        for (int what : new int[] {-1, 3, LOW, HIGH}) due("what " + what, x.at(10, 0, what, 1), NO);
        for (int part : new int[] {-1, 2, LOW, HIGH}) due("part " + part, x.at(10, 0, 0, part), NO);
        due("no pieces", new CamPieces().at(0, 1, 0, 0), NO);
    }

    private void p12AtByKind() {
        // Each of 4 angles, 8 up, at u = 1/4: p is 0, 1/4, 1/16, 7/16, 5/32, 53/512.
        long[][] quarter = {{0, 1, 0, 1, 0, 1}, {2, 1, 2, 1, 0, 1}, {1, 2, 1, 1, 1, 1}, {7, 2, 3, 1, -1, 1},
            {5, 4, 9, 4, 3, 2}, {53, 64, 135, 64, 45, 16}};
        for (int kind = 0; kind < 6; kind++) {
            CamPieces x = cam(LINE, 2, -3, kind, 4, kind == 0 ? 0 : 8);
            long[] q = quarter[kind];
            dueAt(x, 3, 0, 0, q[0] - 3 * q[1], q[1]);
            dueAt(x, 3, 1, 1, q[2], q[3]);
            dueAt(x, 3, 0, 2, q[4], q[5]);
            dueAt(x, 6, 0, 0, kind == 0 ? -3 : 5, 1);
        }
    }

    private void p12Sides() {
        CamPieces x = cam(START, 120, 6, STOP, 120, 6, LINE, 120, -12);
        dueAt(x, 0, 0, 0, 0, 1);
        dueAt(x, 0, 0, 1, -1, 10);
        dueAt(x, 0, 1, 1, 0, 1);
        dueAt(x, 0, 1, 2, 1, 1200);
        dueAt(x, 360, 0, 1, -1, 10);
        dueAt(x, 360, 1, 1, 0, 1);
        dueAt(x, 360, 1, 2, 1, 1200);
        dueAt(x, 360, 1, 0, 0, 1);
        dueAt(x, 120, 0, 2, 1, 1200);
        dueAt(x, 120, 1, 2, -1, 1200);
        CamPieces y = cam(START, 120, 6, LINE, 200, -3, CUBIC, 40, -3);
        dueAt(y, 0, 0, 2, 9, 800);
        dueAt(y, 360, 0, 2, 9, 800);
        x.put(2, 2, -11);
        due("not closed any more", x.at(0, 0, 0, 0), NO);
        due("not closed any more", x.at(360, 1, 0, 0), NO);
        dueAt(x, 360, 0, 0, 1, 1);
    }

    private void p13Jump() {
        CamPieces x = cam(START, 120, 6, STOP, 60, 3, CUBIC, 90, -4, LINE, 90, -5);
        dueJump(x, 1, 0, 0, 1);
        // -1/600 less 1/1200.
        dueJump(x, 1, 1, -1, 400);
        dueJump(x, 2, 0, 0, 1);
        // -2/675 and 1/600.
        dueJump(x, 2, 1, -7, 5400);
        dueJump(x, 3, 0, -1, 18);
        dueJump(x, 3, 1, -2, 675);
        dueJump(x, 0, 0, 1, 18);
        dueJump(x, 0, 1, 1, 1200);
        for (int join : new int[] {-1, 4, 12, LOW, HIGH}) due("join " + join, x.jump(join, 0, 1), NO);
        for (int what : new int[] {-1, 2, LOW, HIGH}) due("what " + what, x.jump(1, what, 1), NO);
        for (int part : new int[] {-1, 2, LOW, HIGH}) due("part " + part, x.jump(1, 0, part), NO);
        x.put(3, 2, -6);
        due("no join 0", x.jump(0, 0, 0), NO);
        due("no pieces", new CamPieces().jump(0, 0, 0), NO);
        x = cam(DWELL, 360, 0);
        dueJump(x, 0, 0, 0, 1);
    }

    private void p14Join() {
        CamPieces x = cam(LINE, 30, 3, LINE, 60, 6, STOP, 20, 1, DWELL, 10, 0, QUINTIC, 50, 5, CUBIC, 50, 5);
        dueNumbers("join", new long[] {x.join(0), x.join(1), x.join(2), x.join(3), x.join(4), x.join(5), x.join(6)},
            -1, 2, 1, 1, 2, 1, -1);
        x.put(1, 2, 7);
        due("corner", x.join(1), 0);
        for (int join : new int[] {-1, 12, LOW, HIGH}) due("join " + join, x.join(join), -1);
        x = cam(QUINTIC, 180, 9, QUINTIC, 180, -9);
        dueNumbers("closed", new long[] {x.join(0), x.join(1)}, 2, 2);
        x = cam(QUINTIC, 180, 9, CUBIC, 180, -9);
        dueNumbers("rough", new long[] {x.join(0), x.join(1)}, 1, 1);
        x = cam(QUINTIC, 180, 9, LINE, 180, -9);
        dueNumbers("corners", new long[] {x.join(0), x.join(1)}, 0, 0);
        due("none", new CamPieces().join(0), -1);
    }

    private void p15Joins() {
        CamPieces x = cam(LINE, 30, 3, LINE, 60, 6, STOP, 20, 1, DWELL, 10, 0, LINE, 50, 5);
        dueNumbers("open", new long[] {x.joins(0), x.joins(1), x.joins(2)}, 1 << 4, 1 << 2 | 1 << 3, 1 << 1);
        x = cam(QUINTIC, 180, 9, LINE, 180, -9);
        dueNumbers("closed", new long[] {x.joins(0), x.joins(1), x.joins(2)}, 3, 0, 0);
        x = cam(DWELL, 360, 0);
        dueNumbers("one", new long[] {x.joins(0), x.joins(1), x.joins(2)}, 0, 0, 1);
        for (int what : new int[] {-1, 3, LOW, HIGH}) due("what " + what, x.joins(what), -1);
        x = new CamPieces();
        dueNumbers("none", new long[] {x.joins(0), x.joins(1), x.joins(2), x.joins(3)}, 0, 0, 0, -1);
    }

    private void p16Extreme() {
        CamPieces x = cam(LINE, 10, 5, DWELL, 10, 0, CUBIC, 10, -8, DWELL, 5, 0, QUINTIC, 10, 8, STOP, 10, -8);
        dueNumbers("of several the first", new long[] {x.extreme(0), x.extreme(1)}, 10, 30);
        x = cam(LINE, 10, -5, LINE, 10, 4);
        dueNumbers("below 0", new long[] {x.extreme(0), x.extreme(1)}, 0, 10);
        x = cam(LINE, 10, 1, LINE, 10, 1);
        x.drop();
        dueNumbers("up by 1", new long[] {x.extreme(0), x.extreme(1)}, 10, 0);
        x = cam(DWELL, 10, 0);
        dueNumbers("level", new long[] {x.extreme(0), x.extreme(1)}, 0, 0);
        for (int what : new int[] {-1, 2, LOW, HIGH}) due("what " + what, x.extreme(what), -1);
        x = new CamPieces();
        dueNumbers("none", new long[] {x.extreme(0), x.extreme(1), x.extreme(2)}, -5, -5, -1);
    }

    private void p17Curve() {
        CamPieces x = cam(START, 57, 1, STOP, 57, 3);
        x.tell(0, 7);
        dueFraction("start", x.curve(57, 0, 0), x.curve(57, 0, 1), 10, 1);
        dueFraction("stop", x.curve(57, 1, 0), x.curve(57, 1, 1), 2, 1);
        dueFraction("at 0", x.curve(0, 1, 0), x.curve(0, 1, 1), 9, 1);
        dueFraction("within", x.curve(19, 0, 0), x.curve(19, 0, 1), 82, 9);
        x.tell(0, 1);
        dueFraction("below 0", x.curve(57, 1, 0), x.curve(57, 1, 1), -4, 1);
        dueSights(x, 114, 0);
    }

    /** Wrong numbers of curve, pressure (1), force (2) of an open cam. */
    private void dueSights(CamPieces x, int total, int which) {
        due("side 0 of 0", sight(x, which, 0, 0, 0), NO);
        due("side 1 of total", sight(x, which, total, 1, 0), NO);
        due("side 1 of 0", sight(x, which, 0, 1, 1) == NO ? 1 : 0, 0);
        due("side 0 of total", sight(x, which, total, 0, 1) == NO ? 1 : 0, 0);
        for (int angle : new int[] {-1, total + 1, LOW, HIGH}) due("angle " + angle, sight(x, which, angle, 0, 0), NO);
        for (int side : new int[] {-1, 2, LOW, HIGH}) due("side " + side, sight(x, which, 5, side, 0), NO);
        for (int part : new int[] {-1, 2, LOW, HIGH}) due("part " + part, sight(x, which, 5, 0, part), NO);
        due("no pieces", sight(new CamPieces(), which, 0, 1, 0), NO);
        CamPieces closed = cam(LINE, 180, 3, LINE, 180, -3);
        due("closed, side 0 of 0", sight(closed, which, 0, 0, 1) == NO ? 1 : 0, 0);
        due("closed, side 1 of 360", sight(closed, which, 360, 1, 1) == NO ? 1 : 0, 0);
    }

    private static long sight(CamPieces x, int which, int angle, int side, int part) {
        if (which == 0) return x.curve(angle, side, part);
        return which == 1 ? x.pressure(angle, side, part) : x.force(angle, side, part);
    }

    private void p18Pressure() {
        CamPieces x = cam(LINE, 20, 10, LINE, 30, -9);
        x.tell(0, 9);
        dueFraction("up", x.pressure(20, 0, 0), x.pressure(20, 0, 1), 3, 2);
        dueFraction("down", x.pressure(20, 1, 0), x.pressure(20, 1, 1), -9, 10);
        dueFraction("end", x.pressure(50, 0, 0), x.pressure(50, 0, 1), -171, 100);
        dueSights(x, 50, 1);
        x = cam(LINE, 10, -10);
        x.tell(0, 5);
        due("reach is 0", x.pressure(5, 0, 0), NO);
        due("reach is 0", x.pressure(5, 0, 1), NO);
        due("reach is below 0", x.pressure(6, 0, 1), NO);
        dueFraction("reach is 1", x.pressure(4, 1, 0), x.pressure(4, 1, 1), -57, 1);
        x = cam(LINE, 1, -4);
        x.tell(0, 5);
        dueFraction("reach is 1 of a LONG of 1", x.pressure(1, 0, 0), x.pressure(1, 0, 1), -228, 1);
        x = cam(DWELL, 10, 0);
        dueFraction("level", x.pressure(5, 0, 0), x.pressure(5, 0, 1), 0, 1);
    }

    private void p19Force() {
        CamPieces x = cam(START, 57, 1, STOP, 57, 3);
        dueFraction("first", x.force(57, 0, 0), x.force(57, 0, 1), 13, 1);
        x.tell(1, 2);
        x.tell(2, 5);
        x.tell(3, 7);
        x.tell(4, 3);
        dueFraction("start", x.force(57, 0, 0), x.force(57, 0, 1), 7 + 5 + 2 * 9 * 2, 1);
        dueFraction("stop", x.force(57, 1, 0), x.force(57, 1, 1), 7 + 5 - 2 * 9 * 6, 1);
        dueFraction("within", x.force(19, 1, 0), x.force(19, 1, 1), 43 * 9 + 5, 9);
        x.tell(4, 0);
        dueFraction("at rest", x.force(57, 1, 0), x.force(57, 1, 1), 12, 1);
        dueSights(x, 114, 2);
    }

    private void p20Count() {
        CamPieces x = cam(START, 57, 1, STOP, 57, 3);
        x.tell(0, 5);
        due("where it is 0", x.count(0), 1);
        x.tell(0, 6);
        due("nowhere", x.count(0), 0);
        x.tell(0, 1);
        // 1 + LIFT - 6 is 0 or less all along STOP, whose greatest LIFT is 4.
        due("all of it", x.count(0), 58);
        x.tell(3, 4);
        x.tell(2, 0);
        due("floats", x.count(1), 58);
        x.tell(3, 7);
        due("floats nowhere", x.count(1), 0);
        x.tell(3, 6);
        due("floats where it is 0", x.count(1), 58);
        for (int what : new int[] {-1, 2, LOW, HIGH}) due("what " + what, x.count(what), -1);
        due("none", new CamPieces().count(1), 0);
        x = cam(START, 180, 99, STOP, 180, -99);
        x.tell(0, 1);
        // START up bends up, STOP down too: by 19.85, wherever.
        due("closed, bent upwards", x.count(0), 0);
        x = cam(STOP, 180, 99, START, 180, -99);
        x.tell(0, 19);
        due("both ends, angle 0 and 360 from either side", x.count(0), 2);
        x.tell(3, 0);
        due("floats at both ends, and near", x.count(1) >= 2 ? 1 : 0, 1);
        x = cam(DWELL, 9, 0);
        x.tell(0, 1);
        x.tell(3, 1);
        due("1 is not undercut", x.count(0), 0);
        due("1 floats not", x.count(1), 0);
        x = cam(STOP, 180, 99, LINE, 180, -99);
        x.tell(0, 19);
        due("360 from side 1 alone", x.count(0), 2);
        x = cam(STOP, 180, 99, LINE, 10, -9, LINE, 10, -9, LINE, 10, -9, LINE, 10, -9, LINE, 10, -9, LINE, 10, -9,
            LINE, 10, -9, LINE, 10, -9, LINE, 10, -9, LINE, 10, -9, LINE, 80, -9);
        x.tell(0, 19);
        due("360 from side 1 alone, with twelve pieces", x.count(0), 2);
    }

    private void p21LeastRadius() {
        due("none", new CamPieces().leastRadius(), 1);
        due("level", cam(DWELL, 9, 0).leastRadius(), 1);
        due("0 is undercut, too", cam(START, 57, 1, STOP, 57, 3).leastRadius(), 6);
        due("below the base", cam(LINE, 9, -20).leastRadius(), 21);
        due("999", cam(LINE, 100, -99, LINE, 100, -99, LINE, 1, -99, LINE, 1, -99, LINE, 1, -99, LINE, 1, -99, LINE, 1, -99,
            LINE, 1, -99, LINE, 1, -99, LINE, 1, -99, LINE, 1, -8).leastRadius(), 999);
        due("1000", cam(LINE, 100, -99, LINE, 100, -99, LINE, 1, -99, LINE, 1, -99, LINE, 1, -99, LINE, 1, -99, LINE, 1, -99,
            LINE, 1, -99, LINE, 1, -99, LINE, 1, -99, LINE, 1, -9).leastRadius(), -5);
        due("bends too much", cam(STOP, 10, 99).leastRadius(), -5);
        CamPieces x = cam(START, 40, 10, STOP, 40, 10, DWELL, 60, 0, CUBIC, 80, -20, DWELL, 140, 0);
        int radius = x.leastRadius();
        x.tell(0, radius);
        due("nowhere by it", x.count(0), 0);
        x.tell(0, radius - 1);
        due("somewhere by less", x.count(0) > 0 ? 1 : 0, 1);
    }

    private void p22Steepest() {
        due("none", new CamPieces().steepest(), -5);
        CamPieces low = cam(DWELL, 9, 0);
        due("level", low.steepest(), 0);
        low.tell(0, 1);
        due("level and low", low.steepest(), 0);
        due("1/20 and 1/10", cam(LINE, 20, 1, LINE, 10, 1).steepest(), 20);
        due("least reach", cam(LINE, 10, 5).steepest(), 0);
        due("least reach at the end", cam(LINE, 10, -5).steepest(), 10);
        due("within", cam(DWELL, 10, 0, CUBIC, 20, 2).steepest(), 20);
        due("without sign", cam(LINE, 10, 5, LINE, 10, -6).steepest(), 20);
        CamPieces x = cam(LINE, 10, 5, LINE, 10, -5, LINE, 10, 5);
        due("of several the first", x.steepest(), 0);
        x = cam(LINE, 10, 5, LINE, 10, -9, DWELL, 5, 0);
        x.tell(0, 4);
        due("those without pressure don't count", x.steepest(), 19);
        x = cam(DWELL, 180, 0, LINE, 90, 1, LINE, 90, -1);
        x.tell(0, 1);
        due("closed: angle 0 from side 0", x.steepest(), 0);
    }

    private void p23Gentle() {
        due("none", new CamPieces().gentle(0), 1);
        due("level", cam(DWELL, 9, 0).gentle(0), 1);
        due("level never", cam(LINE, 9, 1).gentle(0), -5);
        // 57 times 1/10 by RADIUS: 0.5 at 11.4, 1 at 5.7, 0.57 at 10.
        CamPieces x = cam(LINE, 90, 9);
        due("50", x.gentle(50), 12);
        due("100", x.gentle(100), 6);
        due("57, just so", x.gentle(57), 10);
        due("56", x.gentle(56), 11);
        due("1", x.gentle(1), 570);
        due("999", x.gentle(999), 1);
        due("of a fall", cam(LINE, 90, -9).gentle(57), 19);
        // 41 times 139 is 5699, 1 less than 100 times 57.
        due("hardly too steep", cam(LINE, 1, 1).gentle(41), 140);
        due("too steep", cam(LINE, 10, 99).gentle(50), -5);
        // 99 by (RADIUS less 99) is 11 hundredths at 999.
        due("999, just so", cam(LINE, 57, -99).gentle(11), 999);
        due("1089 would be", cam(LINE, 57, -99).gentle(10), -5);
        due("is there everywhere", cam(LINE, 360, -1).gentle(999), 2);
        due("is there where it is level, too", cam(QUINTIC, 350, -1, DWELL, 10, 0).gentle(500), 2);
        for (int n : new int[] {-1, 1000, LOW, HIGH}) due("n " + n, x.gentle(n), -2);
        due("BAD ahead of none", new CamPieces().gentle(1000), -2);
    }

    private void p24Floating() {
        due("none", new CamPieces().floating(), -5);
        CamPieces x = cam(START, 57, 1, STOP, 57, 3);
        due("nowhere", x.floating(), -5);
        x.tell(3, 5);
        due("at 57 it is 0", x.floating(), 57);
        x.tell(3, 6);
        due("nowhere", x.floating(), -5);
        x = cam(DWELL, 9, 0);
        x.tell(3, 0);
        due("0 floats", x.floating(), 0);
        x.tell(3, 1);
        due("1 floats not", x.floating(), -5);
        x = cam(STOP, 180, 99, START, 180, -99);
        x.tell(3, 19);
        due("closed: from both sides", x.floating(), 0);
        x = cam(DWELL, 200, 0, LINE, 60, 9, START, 100, -9);
        x.tell(3, 5);
        due("closed: angle 0 from side 0", x.floating(), 0);
        x.drop();
        due("open: nowhere", x.floating(), -5);
    }

    private void p25LeastPreload() {
        due("none", new CamPieces().leastPreload(), 0);
        CamPieces x = cam(START, 57, 1, STOP, 57, 3);
        due("more than 5", x.leastPreload(), 6);
        x.tell(2, 99);
        x.tell(4, 0);
        due("1, as 0 floats", x.leastPreload(), 1);
        due("level", cam(DWELL, 9, 0).leastPreload(), 1);
        x = cam(LINE, 57, -99);
        x.tell(2, 99);
        due("falls", x.leastPreload(), 9802);
        x = cam(LINE, 57, -99, LINE, 57, -1);
        x.tell(2, 99);
        due("99 times 100 is 9900", x.leastPreload(), 9901);
        x.put(1, 2, -2);
        due("10000 would be", x.leastPreload(), -5);
        x = cam(LINE, 57, -99, LINE, 57, -2);
        x.tell(2, 98);
        due("98 times 101 is 9898", x.leastPreload(), 9899);
    }

    private void p26LeastStiff() {
        due("none", new CamPieces().leastStiff(), 0);
        CamPieces x = cam(START, 57, 1, STOP, 57, 3);
        x.tell(3, 4);
        // At 57 it is 4 + STIFF - 6.
        due("lower end", x.leastStiff(), 3);
        x.tell(3, 6);
        due("1", x.leastStiff(), 1);
        x.tell(3, 7);
        due("0", x.leastStiff(), 0);
        x.tell(3, 0);
        due("0 at 114 and 0 at 0", x.leastStiff(), 7);
        x = cam(LINE, 9, -1);
        due("0 while it falls", x.leastStiff(), 0);
        x.tell(3, 0);
        due("where the lift is 0", x.leastStiff(), -5);
        x = cam(LINE, 9, -5, STOP, 57, 6);
        x.tell(3, 12);
        // At 9: 12 - 5 STIFF - 12.
        due("never", x.leastStiff(), -5);
        x = cam(LINE, 30, 4, STOP, 57, 3, LINE, 30, -9);
        x.tell(3, 2);
        // At 30: 2 + 4 STIFF - 6, so 2 or more; at 117: 2 - 2 STIFF, so 0.
        due("too much below", x.leastStiff(), -5);
        x.tell(3, 5);
        // At 30: 5 + 4 STIFF - 6: 1 or more; at 117: 5 - 2 STIFF: 2 or less.
        due("between", x.leastStiff(), 1);
        x = cam(LINE, 57, 1, STOP, 57, 50);
        x.tell(3, 2);
        // At 57: 2 + STIFF - 100.
        due("99", x.leastStiff(), 99);
        x.tell(3, 1);
        due("100 would be", x.leastStiff(), -5);
    }

    private void p27Fastest() {
        due("none", new CamPieces().fastest(), 30);
        due("level", cam(DWELL, 9, 0).fastest(), 30);
        CamPieces x = cam(START, 57, 1, STOP, 57, 3);
        // At 57: 10 + 1 - 6 SPEED SPEED.
        due("1", x.fastest(), 1);
        x.tell(3, 5);
        due("0, as 6 less 6 floats", x.fastest(), 0);
        x.tell(3, 53);
        due("54 is 6 times 9: 2", x.fastest(), 2);
        x.tell(3, 54);
        due("3", x.fastest(), 3);
        x.tell(1, 2);
        due("heavier", x.fastest(), 2);
        x = cam(LINE, 9, -10);
        due("never", x.fastest(), -5);
        x = cam(START, 57, 4, LINE, 9, -4, LINE, 9, 3);
        due("upwards alone", x.fastest(), 30);
        x.tell(3, 0);
        due("at 66 it is 0", x.fastest(), -5);
        x = cam(LINE, 10, -1, START, 57, 1);
        x.tell(3, 1);
        due("floats before it bends", x.fastest(), -5);
        x = cam(STOP, 342, 1);
        x.tell(3, 50);
        // SPEED SPEED by 18: 50 at 30.
        due("29, as 0 floats", x.fastest(), 29);
        x.tell(3, 51);
        due("30", x.fastest(), 30);
    }

    private void p28Smoothed() {
        due("none", new CamPieces().smoothed(), 0);
        due("no corner", cam(CUBIC, 9, 1, DWELL, 9, 0, QUINTIC, 5, 3).smoothed(), 0);
        due("both lines", cam(LINE, 9, 1, LINE, 9, -1).smoothed(), 3);
        due("the middle ones", cam(LINE, 9, 1, LINE, 9, 1, DWELL, 9, 0, LINE, 9, 1, DWELL, 3, 0).smoothed(), 2 | 1 | 8);
        due("start ahead of a dwell", cam(START, 9, 1, DWELL, 9, 0).smoothed(), 1);
        due("stop ahead of a dwell", cam(STOP, 9, 1, DWELL, 9, 0).smoothed(), 0);
        due("start and stop go on", cam(START, 9, 1, STOP, 9, 1).smoothed(), 0);
        due("start and a steeper stop", cam(START, 9, 1, STOP, 9, 2).smoothed(), 3);
        due("a stop of a cubic", cam(CUBIC, 9, 1, STOP, 9, 2).smoothed(), 2);
        due("closed", cam(LINE, 180, 1, LINE, 180, -1).smoothed(), 3);
        due("join 0 alone", cam(STOP, 180, 1, CUBIC, 180, -1).smoothed(), 1);
        due("open: no join 0", cam(STOP, 180, 1, CUBIC, 179, -1).smoothed(), 0);
        CamPieces x = cam(CUBIC, 9, 1, LINE, 9, -1);
        due("ahead of drop", x.smoothed(), 2);
        x.drop();
        due("behind drop", x.smoothed(), 0);
        x = cam(LINE, 9, 1, LINE, 9, -1);
        x.smoothed();
        duePieces(x, LINE, 9, 1, LINE, 9, -1);
        due("twelve", cam(LINE, 9, 1, LINE, 9, -1, LINE, 9, 1, LINE, 9, -1, LINE, 9, 1, LINE, 9, -1, LINE, 9, 1, LINE, 9, -1,
            LINE, 9, 1, LINE, 9, -1, LINE, 9, 1, LINE, 9, -1).smoothed(), 4095);
    }

    private void p29Sample() {
        CamPieces x = cam(LINE, 4, -1, LINE, 4, 2);
        x.tell(5, 2);
        // -1/2, -1, -3/2, -2, -1, 0, 1, 2.
        long[] got = new long[9];
        for (int angle = 0; angle < 9; angle++) got[angle] = x.sample(angle);
        dueNumbers("of two as near the greater", got, 0, 0, -1, -1, -2, -1, 0, 1, 2);
        x.tell(5, 1);
        due("-1/4", x.sample(1), 0);
        due("-3/4", x.sample(3), -1);
        due("1/2", x.sample(7), 1);
        for (int angle : new int[] {-1, 9, LOW, HIGH}) due("angle " + angle, x.sample(angle), NO);
        due("none", new CamPieces().sample(0), NO);
        x.tell(5, 1000);
        due("1000", x.sample(3), -750);
    }

    private void p30Error() {
        CamPieces x = cam(LINE, 2, 2, LINE, 2, -2);
        x.tell(5, 1);
        dueFraction("step 4", x.error(4, 0), x.error(4, 1), 2, 1);
        dueFraction("step 3: 0, 3, 4", x.error(3, 0), x.error(3, 1), 4, 3);
        dueFraction("step 2", x.error(2, 0), x.error(2, 1), 0, 1);
        dueFraction("step 1", x.error(1, 0), x.error(1, 1), 0, 1);
        dueFraction("step 60: as 4", x.error(60, 0), x.error(60, 1), 2, 1);
        for (int step : new int[] {0, -1, 61, LOW, HIGH}) due("step " + step, x.error(step, 0), NO);
        for (int part : new int[] {-1, 2, LOW, HIGH}) due("part " + part, x.error(2, part), NO);
        due("none", new CamPieces().error(1, 1), NO);
        x.tell(5, 3);
        dueFraction("by the grid", x.error(3, 0), x.error(3, 1), 4, 1);
        x = cam(LINE, 2, -2, LINE, 2, 2);
        x.tell(5, 1);
        dueFraction("without sign", x.error(3, 0), x.error(3, 1), 4, 3);
        x = cam(LINE, 3, 1, DWELL, 3, 0);
        x.tell(5, 1);
        // SAMPLES 0 0 1 1 1 1 1; line 0 to 1 at 3: 1/3, 2/3.
        dueFraction("of SAMPLES, not of LIFT", x.error(3, 0), x.error(3, 1), 1, 3);
        x = cam(DWELL, 3, 0, LINE, 1, 9);
        x.tell(5, 1);
        dueFraction("a last line of 1", x.error(3, 0), x.error(3, 1), 0, 1);
        x.piece(LINE, 1, -8);
        // 0 0 0 0 9 1: the line from 3 to 5 is 1/2 at 4.
        dueFraction("a last line of 2", x.error(3, 0), x.error(3, 1), 17, 2);
        x = cam(LINE, 360, 90);
        dueFraction("to 360", x.error(60, 0), x.error(60, 1), 0, 1);
    }

    private void p31Widest() {
        CamPieces x = cam(LINE, 2, 2, LINE, 2, -2);
        x.tell(5, 1);
        due("0", x.widest(0), 2);
        due("133", x.widest(133), 2);
        due("134", x.widest(134), 3);
        due("199", x.widest(199), 3);
        due("200, just so", x.widest(200), 60);
        due("9999", x.widest(9999), 60);
        for (int e : new int[] {-1, 10000, LOW, HIGH}) due("e " + e, x.widest(e), -2);
        due("BAD ahead of STATE", new CamPieces().widest(-1), -2);
        due("STATE", new CamPieces().widest(0), -3);
        due("level", cam(DWELL, 360, 0).widest(0), 60);
        x = cam(LINE, 1, 1, DWELL, 59, 0);
        due("none but 1", x.widest(0), 1);
        due("3 does, though 2 does not", cam(LINE, 3, 3, LINE, 3, -3).widest(0), 3);
    }

    private void p32Lay() {
        CamPieces x = cam(LINE, 10, 10);
        x.tell(5, 1);
        due("NOTHING", x.lay(0, 0, 0, 1, 1), -11);
        due("NOTHING ahead of BAD", x.lay(0, 0, 99, 1, 1), -11);
        x.list(0, 5);
        for (int list : new int[] {-1, 4, LOW, HIGH}) due("list " + list, x.lay(list, 0, 99, 0, -1), -1);
        for (int angle : new int[] {-1, 11, LOW, HIGH}) due("angle " + angle, x.lay(0, 0, angle, 1, 1), -2);
        for (int angle : new int[] {-1, 11, LOW, HIGH}) due("angle, n 0: " + angle, x.lay(0, 0, angle, 1, 0), -2);
        for (int step : new int[] {0, -1, 61, LOW, HIGH}) due("step " + step, x.lay(0, 0, 0, step, 1), -2);
        for (int n : new int[] {-1, 31, LOW, HIGH}) due("n " + n, x.lay(0, 0, 0, 1, n), -2);
        due("BAD ahead of BEYOND", x.lay(0, 5, 8, 1, 4), -2);
        dueNumbers("nothing was laid", row(x, 0, 5), 0, 0, 0, 0, 0);
        due("three", x.lay(0, 1, 2, 4, 3), 3);
        dueNumbers("laid", row(x, 0, 5), 0, 2, 6, 10, 0);
        due("beyond", x.lay(0, 3, 5, 1, 3), -13);
        dueNumbers("those that had a place", row(x, 0, 5), 0, 2, 6, 5, 6);
        for (int i : new int[] {-1, -2, LOW}) due("i " + i, x.lay(0, i, 7, 1, 3), -13);
        for (int i : new int[] {5, 31, HIGH, HIGH - 1}) due("i " + i, x.lay(0, i, 7, 1, 3), -13);
        dueNumbers("none", row(x, 0, 5), 0, 2, 6, 5, 6);
        for (int i : new int[] {0, 5, 6, -1, LOW, HIGH}) due("n 0, i " + i, x.lay(0, i, 10, 60, 0), 0);
        due("all", x.lay(0, 0, 0, 2, 5), 5);
        dueNumbers("all", row(x, 0, 5), 0, 2, 4, 6, 8);
        x.list(1, 0);
        due("n 0 into none", x.lay(1, 0, 0, 1, 0), 0);
        due("1 into none", x.lay(1, 0, 0, 1, 1), -13);
        x = new CamPieces();
        x.list(3, 30);
        due("no pieces, no angle", x.lay(3, 0, 0, 1, 0), -2);
        x.piece(LINE, 360, 90);
        due("30", x.lay(3, 0, 12, 12, 30), 30);
        due("one too many", x.lay(3, 0, 13, 12, 30), -2);
        due("the last", x.get(3, 29), 9000);
    }

    private void p33Seen() {
        CamPieces x = cam(LINE, 2, 3, CUBIC, 8, 8, DWELL, 2, 0, LINE, 9, 7);
        x.tell(5, 10);
        due("NOTHING", x.seen(0, 0, 99, 1), -11);
        x.list(0, 9);
        for (int list : new int[] {-1, 4, LOW, HIGH}) due("list " + list, x.seen(list, 0, 99, 0), -1);
        for (int k : new int[] {-1, 4, 12, LOW, HIGH}) due("piece " + k, x.seen(0, 0, 99, k), -1);
        due("NONE ahead of NOTHING", x.seen(1, 0, 1, 4), -1);
        for (int n : new int[] {0, -1, 31, 10, LOW, HIGH}) due("n " + n, x.seen(0, 0, n, 1), -2);
        due("LONG + 1", x.seen(0, 0, 3, 0), 1 << DWELL);
        due("LONG + 2", x.seen(0, 0, 4, 0), -2);
        due("BAD ahead of BEYOND", x.seen(0, 9, 4, 0), -2);
        for (int i : new int[] {-1, 1, 9, LOW, HIGH}) due("i " + i, x.seen(0, i, 9, 1), -13);
        due("as it was laid", x.lay(0, 0, 2, 1, 9), 9);
        due("cubic", x.seen(0, 0, 9, 1), 1 << CUBIC);
        due("one alone", x.seen(0, 0, 1, 1), 63);
        due("from a place on, another piece", x.seen(0, 8, 1, 2), 63);
        x.set(0, 4, x.get(0, 4) + 1);
        due("one off", x.seen(0, 0, 9, 1), 0);
        for (int i = 0; i < 9; i++) x.set(0, i, 30);
        due("with the rises ahead, level", x.seen(0, 0, 9, 1), 1 << DWELL);
        for (int i = 0; i < 9; i++) x.set(0, i, 110);
        due("a dwell: all kinds alike", x.seen(0, 2, 3, 2), 63);
        x.set(0, 2, 111);
        due("a dwell: none", x.seen(0, 2, 3, 2), 0);
        for (int kind = 1; kind < 6; kind++) {
            x.put(1, 0, kind);
            x.lay(0, 0, 2, 1, 9);
            due("kind " + kind, x.seen(0, 0, 9, 1), 1 << kind);
        }
        x.tell(5, 1);
        x.lay(0, 0, 12, 1, 2);
        // 0 and, of 7 over 9: 7/9, 7/81, 7 times 17/81, 7 times 25/729 ..: 1 for LINE and STOP alone.
        due("coarse", x.seen(0, 0, 2, 3), 1 << LINE | 1 << STOP);
        x = cam(LINE, 40, 7);
        x.list(0, 30);
        x.lay(0, 0, 0, 1, 30);
        due("30", x.seen(0, 0, 30, 0), 1 << LINE);
        due("31", x.seen(0, 0, 31, 0), -2);
    }

    private void p34Feed() {
        CamPieces x = new CamPieces();
        for (int letter : new int[] {0, -1, 128, LOW, HIGH}) due("letter " + letter, x.feed(letter), -2);
        due("1", x.feed(1), 1);
        due("127", x.feed(127), 2);
        for (int i = 3; i <= 120; i++) due("byte " + i, x.feed('a'), i);
        due("FULL", x.feed('a'), -4);
        due("BAD ahead of FULL", x.feed(128), -2);
        due("told", x.told(9), 120);
    }

    private void p35Clear() {
        CamPieces x = new CamPieces();
        due("empty", x.clear(), 0);
        feed(x, "abc");
        due("three", x.clear(), 3);
        due("empty then", x.clear(), 0);
        due("told", x.told(9), 0);
        due("begins anew", x.feed('x'), 1);
    }

    private void dueCam(CamPieces x, String text, int want, int cause) {
        feed(x, text);
        due("cam of '" + text + "'", x.cam(), want);
        due("cause of '" + text + "'", x.cause(), cause);
        due("tape behind '" + text + "'", x.told(9), 0);
    }

    private void p36CamTexts() {
        CamPieces x = cam(LINE, 300, 5, DWELL, 60, 0);
        x.tell(0, 77);
        dueCam(x, "dwell 1;line 2 3;start 4 -5;stop 6 78;cubic 9 -10;quintic 111 99", 6, -5);
        duePieces(x, DWELL, 1, 0, LINE, 2, 3, START, 4, -5, STOP, 6, 78, CUBIC, 9, -10, QUINTIC, 111, 99);
        due("the radius stays", x.told(0), 77);
        dueCam(x, "dwell 360", 1, -5);
        duePieces(x, DWELL, 360, 0);
        dueCam(x, "line 007 05;stop 010 -09", 2, -5);
        duePieces(x, LINE, 7, 5, STOP, 10, -9);
        dueCam(x, "line 1 1;line 359 -1", 2, -5);
        due("closed", x.told(8), 1);
        dueCam(x, "dwell 1;dwell 1;dwell 1;dwell 1;dwell 1;dwell 1;dwell 1;dwell 1;dwell 1;dwell 1;dwell 1;dwell 349", 12, -5);
        due("total", x.told(7), 360);
        due("places", x.of(11, 3), 11);
    }

    /** A text that is none, of an object of its own, as one answers 512 calls alone. */
    private void dueFault(String text, int want, int cause) {
        CamPieces x = cam(LINE, 300, 5);
        dueCam(x, text, want, cause);
        duePieces(x, LINE, 300, 5);
    }

    private void p36CamFaults() {
        dueFault("", -100, 5);
        dueFault("dwel", -100, 1);
        dueFault("dwelll 5", -100, 1);
        dueFault("dwellz 5", -100, 1);
        dueFault("adwell 5", -100, 1);
        dueFault("dwella 5", -100, 1);
        dueFault("dwell{ 5", -105, 4);
        dueFault("dwell` 5", -105, 4);
        dueFault(" dwell 5", -100, 1);
        dueFault("5", -100, 1);
        dueFault(";", -100, 1);
        dueFault("Dwell 5", -100, 1);
        dueFault("dwell", -105, 5);
        dueFault("dwell5", -105, 4);
        dueFault("dwellX5", -105, 4);
        dueFault("dwell ", -106, 5);
        dueFault("dwell  5", -106, 2);
        dueFault("dwell -5", -106, 2);
        dueFault("dwell 0", -106, 2);
        dueFault("dwell 000", -106, 2);
        dueFault("dwell 361", -106, 2);
        dueFault("dwell 361x", -106, 2);
        dueFault("dwell 3610", -106, 2);
        dueFault("dwell 3600", -109, 4);
        dueFault("dwell 0005", -106, 2);
        dueFault("dwell 0050", -109, 4);
        dueFault("dwell 36 ", -108, 4);
        dueFault("dwell 36 0", -108, 4);
        dueFault("dwell 5;", -108, 5);
        dueFault("dwell 5;;", -108, 1);
        dueFault("dwell 5; line 5 5", -108, 1);
        dueFault("dwell 5;liner 5 5", -108, 1);
        dueFault("dwell 5;line", -112, 5);
        dueFault("line 5", -106, 5);
        dueFault("line 5;", -106, 4);
        dueFault("line 5-3", -106, 4);
        dueFault("line 5 ", -107, 5);
        dueFault("line 5 -", -107, 3);
        dueFault("line 5 -;", -107, 3);
        dueFault("line 5 --5", -107, 3);
        dueFault("line 5 x", -107, 3);
        dueFault("line 5  5", -107, 3);
        dueFault("line 5 +5", -107, 3);
        dueFault("line 5 0", -107, 3);
        dueFault("line 5 -0", -107, 3);
        dueFault("line 5 00", -107, 3);
        dueFault("line 5 005", -107, 3);
        dueFault("line 5 050", -109, 4);
        dueFault("line 5 123", -109, 4);
        dueFault("line 5 -123", -110, 4);
        dueFault("line 5 12 ", -109, 4);
        dueFault("line 5 12,", -109, 4);
        dueFault("line 5 1-", -108, 4);
        dueFault("dwell 300;line 300 5;x", -121, 1);
    }

    private void p36CamUnfit() {
        String twelve = "dwell 1;dwell 1;dwell 1;dwell 1;dwell 1;dwell 1;dwell 1;dwell 1;dwell 1;dwell 1;dwell 1;dwell 1";
        dueFault("dwell 360;dwell 1", -301, 7);
        dueFault("line 300 5;line 60 5;line 1 5;dwell 1", -302, 7);
        dueFault(twelve + ";dwell 1", -312, 6);
        dueFault(twelve + ";dwell 1;dwell 1;dwell 1", -312, 6);
        dueFault(twelve + ";dwell 360", -312, 6);
        dueFault(twelve + ";dwell 1;dwell x", -210, 2);
        dueFault("dwell 360;" + twelve, -301, 7);
        dueFault(twelve.replaceFirst(" 1;", " 350;") + ";dwell 1", -311, 7);
        dueFault("dwell 359;dwell 2;dwell 1", -301, 7);
        CamPieces x = cam(LINE, 300, 5);
        dueCam(x, twelve, 12, -5);
        dueCam(x, twelve + ";dwell 1", -312, 6);
        due("nothing is changed", x.told(7), 12);
    }

    private void p37Cause() {
        CamPieces x = new CamPieces();
        due("none yet", x.cause(), -5);
        dueCam(x, "dwell 9", 1, -5);
        x.image();
        dueCam(x, "dwell 9;x", -108, 1);
        dueCam(x, "dwell 9", 1, 1);
        x.undo();
        due("undo leaves it", x.cause(), 1);
        dueCam(x, "dwell 360;dwell 1", -301, 7);
        x.undo();
        x.drop();
        due("the latest", x.cause(), 7);
    }

    private void p38List() {
        CamPieces x = new CamPieces();
        for (int list : new int[] {-1, 4, LOW, HIGH}) due("list " + list, x.list(list, 31), -1);
        for (int n : new int[] {31, HIGH}) due("n " + n, x.list(0, n), -2);
        for (int n : new int[] {-1, LOW}) due("n " + n, x.list(0, n), -14);
        due("still nothing", x.set(0, 0, 1), -11);
        due("0", x.list(0, 0), 1);
        due("no place", x.set(0, 0, 1), -13);
        for (int list = 0; list < 4; list++) due("30", x.list(list, 30), 1);
        for (int list = 0; list < 4; list++) x.set(list, 29, list + 1);
        for (int list = 0; list < 4; list++) due("its own row", x.get(list, 29), list + 1);
        x.set(1, 0, 5);
        due("again", x.list(1, 2), 1);
        due("all 0", x.get(1, 0), 0);
        due("shorter", x.get(1, 2), NO);
        due("a wrong one changes nothing", x.list(2, 31), -2);
        due("a wrong one changes nothing", x.get(2, 29), 3);
    }

    private void p39Set() {
        CamPieces x = new CamPieces();
        due("NOTHING", x.set(1, 0, 5), -11);
        x.list(1, 3);
        for (int list : new int[] {-1, 4, LOW, HIGH}) due("list " + list, x.set(list, 0, 5), -1);
        for (int i : new int[] {-1, 3, 30, LOW, HIGH}) due("i " + i, x.set(1, i, 5), -13);
        due("least", x.set(1, 0, Long.MIN_VALUE), 1);
        due("most", x.set(1, 2, Long.MAX_VALUE), 1);
        dueNumbers("set", row(x, 1, 3), Long.MIN_VALUE, 0, Long.MAX_VALUE);
    }

    private void p40Get() {
        CamPieces x = new CamPieces();
        due("nothing there", x.get(2, 0), NO);
        x.list(2, 2);
        x.set(2, 1, -7);
        due("0", x.get(2, 0), 0);
        due("-7", x.get(2, 1), -7);
        for (int list : new int[] {-1, 0, 4, LOW, HIGH}) due("list " + list, x.get(list, 0), NO);
        for (int i : new int[] {-1, 2, 30, LOW, HIGH}) due("i " + i, x.get(2, i), NO);
    }

    private void p41Image() {
        CamPieces x = new CamPieces();
        due("of none", x.image(), 0);
        x.piece(LINE, 5, 5);
        x.piece(LINE, 5, 5);
        due("undone", x.undo(), 0);
        x.piece(STOP, 6, 5);
        due("of one", x.image(), 1);
        x.put(0, 1, 9);
        due("of one", x.undo(), 1);
        duePieces(x, STOP, 6, 5);
    }

    private void p42Undo() {
        CamPieces x = cam(LINE, 5, 5, DWELL, 6, 0);
        due("STATE", x.undo(), -3);
        int[] told = {200, 2, 3, 40, 5, 600};
        for (int what = 0; what < 6; what++) x.tell(what, told[what]);
        x.image();
        for (int what = 0; what < 6; what++) x.tell(what, 7);
        x.mirror();
        x.piece(CUBIC, 8, 8);
        feed(x, "line");
        x.list(0, 3);
        x.set(0, 1, 9);
        due("undone", x.undo(), 2);
        duePieces(x, LINE, 5, 5, DWELL, 6, 0);
        for (int what = 0; what < 6; what++) due("told " + what, x.told(what), told[what]);
        due("the tape stays", x.told(9), 4);
        due("lists stay", x.get(0, 1), 9);
        x.drop();
        x.tell(0, 9);
        due("as often as one likes", x.undo(), 2);
        due("as often as one likes", x.told(0), 200);
    }

    private void askedChangesNothing() {
        CamPieces x = cam(START, 40, 10, STOP, 40, 10, DWELL, 60, 0, CUBIC, 80, -20, DWELL, 140, 0);
        x.list(0, 5);
        x.image();
        feed(x, "dw");
        x.alike(0); x.unlike(1); x.steepestPiece(); x.joins(0); x.extreme(0); x.count(0); x.count(1); x.leastRadius();
        x.steepest(); x.gentle(5); x.floating(); x.leastPreload(); x.leastStiff(); x.fastest(); x.smoothed();
        x.sample(5); x.error(7, 0); x.widest(5); x.seen(0, 0, 5, 1); x.cause(); x.get(0, 1); x.jump(1, 1, 1);
        duePieces(x, START, 40, 10, STOP, 40, 10, DWELL, 60, 0, CUBIC, 80, -20, DWELL, 140, 0);
        dueNumbers("told", new long[] {x.told(0), x.told(1), x.told(2), x.told(3), x.told(4), x.told(5), x.told(9)},
            100, 1, 1, 10, 1, 100, 2);
        dueNumbers("the list", row(x, 0, 5), 0, 0, 0, 0, 0);
        due("cause", x.cause(), -5);
    }
}
