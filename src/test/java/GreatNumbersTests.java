/** The widest and highest cams there may be, with the greatest numbers told: where a long would be the first to be short. */
public final class GreatNumbersTests {
    private final Checks checks;
    private CamPieces cam;
    private SlowCam slow;

    private GreatNumbersTests(Checks checks) {
        this.checks = checks;
    }

    public static void main(String[] args) {
        Checks checks = new Checks("great numbers");
        GreatNumbersTests tests = new GreatNumbersTests(checks);
        for (int kind = 1; kind <= 5; kind++) {
            for (int sign = -1; sign <= 1; sign += 2) {
                tests.askAll(kind, 1, 360, 99 * sign);
                tests.askAll(kind, 12, 349, 99 * sign);
                tests.askAll(kind, 2, 359, 99 * sign);
                tests.askAll(kind, 12, 347, sign);
            }
        }
        checks.end();
    }

    private void same(String call, long got, long want) {
        checks.due(call, got, want);
    }

    /** Short steep pieces ahead, one long piece last. */
    private void build(int kind, int pieces, int length, int rise) {
        cam = new CamPieces();
        slow = new SlowCam();
        for (int k = 1; k < pieces; k++) {
            int begin = rise > 0 ? 99 : -99;
            same("piece", cam.piece(kind, 1, begin), slow.piece(kind, 1, begin));
        }
        same("piece", cam.piece(kind, length, rise), slow.piece(kind, length, rise));
    }

    private void tell(int what, int v) {
        same("tell", cam.tell(what, v), slow.tell(what, v));
    }

    private void askAll(int kind, int pieces, int length, int rise) {
        int[][] settings = {{999, 20, 99, 9999, 30, 1000}, {1, 1, 1, 0, 1, 1}, {999, 1, 99, 9999, 1, 999}};
        for (int[] some : settings) {
            // An object answers 512 calls: each part of the questions goes to one of its own.
            for (int from = 0; from <= 360; from += 90) {
                buildWith(kind, pieces, length, rise, some);
                askAngles(from, Math.min(from + 89, 360));
            }
            buildWith(kind, pieces, length, rise, some);
            askThoughts();
        }
    }

    private void buildWith(int kind, int pieces, int length, int rise, int... settings) {
        build(kind, pieces, length, rise);
        for (int what = 0; what < settings.length; what++) tell(what, settings[what]);
    }

    private void askAngles(int from, int to) {
        for (int angle = from; angle <= to; angle += angle < 14 || angle > 346 ? 1 : 7) {
            same("sample", cam.sample(angle), slow.sample(angle));
            for (int part = 0; part < 2; part++) {
                int side = angle % 2;
                for (int what = 0; what < 3; what++) {
                    same("at", cam.at(angle, side, what, part), slow.at(angle, side, what, part));
                }
                same("curve", cam.curve(angle, side, part), slow.curve(angle, side, part));
                same("pressure", cam.pressure(angle, side, part), slow.pressure(angle, side, part));
                same("force", cam.force(angle, side, part), slow.force(angle, side, part));
            }
        }
    }

    private void askThoughts() {
        for (int n : new int[] {20, 999}) same("gentle " + n, cam.gentle(n), slow.gentle(n));
        for (int what = 0; what < 2; what++) same("count", cam.count(what), slow.count(what));
        same("leastRadius", cam.leastRadius(), slow.leastRadius());
        same("steepest", cam.steepest(), slow.steepest());
        same("floating", cam.floating(), slow.floating());
        same("leastPreload", cam.leastPreload(), slow.leastPreload());
        same("leastStiff", cam.leastStiff(), slow.leastStiff());
        same("fastest", cam.fastest(), slow.fastest());
        for (int step : new int[] {1, 7, 60}) {
            for (int part = 0; part < 2; part++) same("error", cam.error(step, part), slow.error(step, part));
        }
        same("widest", cam.widest(9999), slow.widest(9999));
        for (int join = 0; join < 12; join++) {
            for (int part = 0; part < 2; part++) {
                same("jump", cam.jump(join, 0, part), slow.jump(join, 0, part));
                same("jump", cam.jump(join, 1, part), slow.jump(join, 1, part));
            }
        }
    }
}
