import java.util.Random;

/**
 * Runs of calls by a random source with a fixed seed, each call asked of CamPieces and of SlowCam.
 * With an argument: that many runs.
 */
public final class CompareTests {
    private static final int[] EXTREMES = {
        Integer.MIN_VALUE, Integer.MIN_VALUE + 1, -1000000000, -100, -99, -6, -2, -1, 0, 1, 2, 3, 4, 5, 6, 7, 9, 10, 11, 12,
        13, 29, 30, 31, 57, 59, 60, 61, 99, 100, 119, 120, 121, 127, 128, 359, 360, 361, 999, 1000, 1001, 9999, 10000,
        1000000000, Integer.MAX_VALUE - 30, Integer.MAX_VALUE - 1, Integer.MAX_VALUE,
    };
    private static final String[] WORDS = {"dwell", "line", "start", "stop", "cubic", "quintic"};

    /** The 512th call has been made: what later calls answer is free. */
    private static final class RunIsOver extends RuntimeException {
        private static final long serialVersionUID = 1L;
    }

    private final Checks checks;
    private final Random random;
    private final int run;
    private final CamPieces cam = new CamPieces();
    private final SlowCam slow = new SlowCam();
    private int calls = 0;

    private CompareTests(Checks checks, int run) {
        this.checks = checks;
        this.run = run;
        this.random = new Random(1000003L * run + 7);
    }

    public static void main(String[] args) {
        int runs = args.length > 0 ? Integer.parseInt(args[0]) : 60;
        Checks checks = new Checks("random runs");
        for (int run = 0; run < runs && !checks.hasWrong(); run++) new CompareTests(checks, run).playToTheEnd();
        checks.end();
    }

    private void playToTheEnd() {
        try {
            play();
        } catch (RunIsOver over) {
            // The 512 calls may end anywhere in a play.
        }
    }

    private void play() {
        int manner = run % 4;
        if (manner == 1) closedCam();
        if (manner == 2) openCam();
        if (manner == 3) text(goodText());
        if (random.nextInt(3) == 0) settings();
        while (!checks.hasWrong()) {
            switch (random.nextInt(24)) {
                case 0: changePieces(); break;
                case 1: if (random.nextInt(4) == 0) settings(); else tell(any(0, 5), any(0, 20)); break;
                case 2: if (random.nextInt(6) == 0) closedCam(); break;
                case 3: if (random.nextInt(6) == 0) openCam(); break;
                case 4: if (random.nextInt(3) == 0) text(spoilt(goodText())); break;
                case 5: imageOrUndo(); break;
                case 6: case 7: lists(); break;
                case 8: seenRun(); break;
                case 9: case 10: inThought(); break;
                case 11: wholeRow(); break;
                default: ask(); break;
            }
        }
    }

    /** A number from low to high, now and then one that is not. */
    private int any(int low, int high) {
        int dice = random.nextInt(20);
        if (dice == 0) return EXTREMES[random.nextInt(EXTREMES.length)];
        if (dice == 1) return random.nextBoolean() ? low - 1 : high + 1;
        if (dice == 2) return random.nextBoolean() ? low : high;
        return low + random.nextInt(Math.max(1, high - low + 1));
    }

    private void same(String call, long got, long want) {
        calls++;
        checks.due("run " + run + ", call " + calls + ": " + call, got, want);
        if (calls == 512) throw new RunIsOver();
    }

    private static String said(String name, long... numbers) {
        StringBuilder text = new StringBuilder(name).append('(');
        for (int i = 0; i < numbers.length; i++) text.append(i == 0 ? "" : ", ").append(numbers[i]);
        return text.append(')').toString();
    }

    private int rise(int kind) {
        int dice = random.nextInt(8);
        int rise = dice == 0 ? 99 : 1 + random.nextInt(dice < 4 ? 9 : 40);
        return kind == 0 ? 0 : random.nextBoolean() ? rise : -rise;
    }

    private void piece(int kind, int length, int rise) {
        same(said("piece", kind, length, rise), cam.piece(kind, length, rise), slow.piece(kind, length, rise));
    }

    private void dropAll() {
        for (int i = slow.told(6); i > 0; i--) same("drop()", cam.drop(), slow.drop());
    }

    private void openCam() {
        dropAll();
        int n = random.nextInt(13), same = random.nextInt(3) == 0 ? 1 + random.nextInt(30) : 0;
        for (int k = 0; k < n; k++) {
            int kind = random.nextInt(6);
            int length = same > 0 ? same : 1 + random.nextInt(random.nextInt(5) == 0 ? 360 : 60);
            piece(kind, length, same > 0 && kind > 0 ? 1 + random.nextInt(2) : rise(kind));
        }
    }

    private void closedCam() {
        dropAll();
        int n = 1 + random.nextInt(12), left = 360, lift = 0;
        for (int k = 0; k < n; k++) {
            boolean isLast = k == n - 1;
            int length = isLast ? left : Math.min(left - (n - 1 - k), 1 + random.nextInt(2 * left / (n - k)));
            int kind = random.nextInt(6), rise = rise(kind);
            if (Math.abs(lift + rise) > 99) rise = -rise;
            if (isLast && random.nextInt(8) > 0) {
                rise = -lift;
                kind = rise == 0 ? 0 : 1 + random.nextInt(5);
            }
            piece(kind, length, rise);
            left -= length;
            lift += rise;
        }
    }

    private void changePieces() {
        int k = any(0, Math.max(0, slow.told(6) - 1)), kind = any(0, 5);
        switch (random.nextInt(6)) {
            case 0: piece(kind, any(1, 90), random.nextInt(5) == 0 ? any(-99, 99) : rise(kind)); break;
            case 1: if (random.nextInt(3) == 0) same("drop()", cam.drop(), slow.drop()); break;
            case 2: same("mirror()", cam.mirror(), slow.mirror()); break;
            case 3: put(k, 0, kind); break;
            case 4: put(k, 1, any(1, 60)); break;
            default: put(k, any(0, 2), any(-99, 99)); break;
        }
    }

    private void put(int piece, int what, int v) {
        same(said("put", piece, what, v), cam.put(piece, what, v), slow.put(piece, what, v));
    }

    private void tell(int what, int v) {
        same(said("tell", what, v), cam.tell(what, v), slow.tell(what, v));
    }

    private void settings() {
        tell(0, any(1, random.nextBoolean() ? 40 : 999));
        tell(1, any(1, random.nextBoolean() ? 2 : 20));
        tell(2, any(0, random.nextBoolean() ? 9 : 99));
        tell(3, any(0, random.nextBoolean() ? 300 : 9999));
        tell(4, any(0, random.nextBoolean() ? 3 : 30));
        tell(5, any(1, random.nextBoolean() ? 12 : 1000));
    }

    private void imageOrUndo() {
        if (random.nextInt(3) == 0) same("image()", cam.image(), slow.image());
        if (random.nextInt(3) == 0) same("undo()", cam.undo(), slow.undo());
    }

    private void ask() {
        int total = slow.told(7), n = slow.told(6);
        int angle = angle(total), side = any(0, 1), part = any(0, 1);
        int k = any(0, Math.max(0, n - 1)), what = any(0, 2), few = any(0, 1);
        switch (random.nextInt(16)) {
            case 0: same(said("of", k, any(0, 0)), cam.of(k, 0), slow.of(k, 0)); break;
            case 1: ofAll(k); break;
            case 2: toldAll(any(0, 9)); break;
            case 3: same(said("alike", k), cam.alike(k), slow.alike(k)); break;
            case 4: int j = any(-1, n); same(said("unlike", j), cam.unlike(j), slow.unlike(j)); break;
            case 5: same("steepestPiece()", cam.steepestPiece(), slow.steepestPiece()); break;
            case 6:
                same(said("at", angle, side, what, part), cam.at(angle, side, what, part), slow.at(angle, side, what, part));
                break;
            case 7: same(said("jump", k, few, part), cam.jump(k, few, part), slow.jump(k, few, part)); break;
            case 8: same(said("join", k), cam.join(k), slow.join(k)); break;
            case 9: same(said("joins", what), cam.joins(what), slow.joins(what)); break;
            case 10: same(said("extreme", few), cam.extreme(few), slow.extreme(few)); break;
            case 11: same(said("curve", angle, side, part), cam.curve(angle, side, part), slow.curve(angle, side, part)); break;
            case 12:
                same(said("pressure", angle, side, part), cam.pressure(angle, side, part), slow.pressure(angle, side, part));
                break;
            case 13: same(said("force", angle, side, part), cam.force(angle, side, part), slow.force(angle, side, part)); break;
            case 14: same(said("sample", angle), cam.sample(angle), slow.sample(angle)); break;
            default: same("cause()", cam.cause(), slow.cause()); break;
        }
    }

    /** An angle of 0 to total; often one where a piece begins. */
    private int angle(int total) {
        int n = slow.told(6), dice = random.nextInt(6);
        if (dice < 2 && n > 0) return slow.of(random.nextInt(n), 3);
        return dice == 2 ? total : any(0, total);
    }

    private void ofAll(int k) {
        int what = any(0, 4);
        same(said("of", k, what), cam.of(k, what), slow.of(k, what));
    }

    private void toldAll(int what) {
        same(said("told", what), cam.told(what), slow.told(what));
    }

    private void inThought() {
        int few = any(0, 1), n = any(0, random.nextBoolean() ? 999 : 100), step = any(1, 60), part = any(0, 1);
        int e = any(0, random.nextBoolean() ? 9999 : 300);
        switch (random.nextInt(12)) {
            case 0: same(said("count", few), cam.count(few), slow.count(few)); break;
            case 1: same("leastRadius()", cam.leastRadius(), slow.leastRadius()); break;
            case 2: same("steepest()", cam.steepest(), slow.steepest()); break;
            case 3: same(said("gentle", n), cam.gentle(n), slow.gentle(n)); break;
            case 4: same("floating()", cam.floating(), slow.floating()); break;
            case 5: same("leastPreload()", cam.leastPreload(), slow.leastPreload()); break;
            case 6: same("leastStiff()", cam.leastStiff(), slow.leastStiff()); break;
            case 7: same("fastest()", cam.fastest(), slow.fastest()); break;
            case 8: if (random.nextInt(4) == 0) same("smoothed()", cam.smoothed(), slow.smoothed()); break;
            case 9: case 10: same(said("error", step, part), cam.error(step, part), slow.error(step, part)); break;
            default: if (random.nextInt(3) == 0) same(said("widest", e), cam.widest(e), slow.widest(e)); break;
        }
    }

    private void lists() {
        int list = any(0, 3), i = any(0, 12), n = any(0, 15), step = any(1, 9);
        long v = random.nextInt(4) == 0 ? random.nextLong() : random.nextInt(100);
        switch (random.nextInt(6)) {
            case 0: n = any(0, 30); same(said("list", list, n), cam.list(list, n), slow.list(list, n)); break;
            case 1: same(said("set", list, i, v), cam.set(list, i, v), slow.set(list, i, v)); break;
            case 2: case 3: same(said("get", list, i), cam.get(list, i), slow.get(list, i)); break;
            default:
                int a = angle(slow.told(7));
                same(said("lay", list, i, a, step, n), cam.lay(list, i, a, step, n), slow.lay(list, i, a, step, n));
                break;
        }
    }

    /** Samples of a piece are laid, perhaps with its kind changed behind that, and seen. */
    private void seenRun() {
        int pieces = slow.told(6), list = any(0, 3), i = any(0, 3);
        if (pieces == 0) return;
        int k = random.nextInt(pieces), n = any(1, Math.min(30, slow.of(k, 1) + 1)), begin = slow.of(k, 3);
        if (random.nextBoolean()) same(said("list", list, 30), cam.list(list, 30), slow.list(list, 30));
        same(said("lay", list, i, begin, 1, n), cam.lay(list, i, begin, 1, n), slow.lay(list, i, begin, 1, n));
        if (random.nextInt(3) == 0) put(k, 0, any(1, 5));
        if (random.nextInt(4) == 0) {
            int place = i + random.nextInt(Math.max(1, Math.min(30, n)));
            long v = slow.get(list, place) + random.nextInt(3) - 1;
            same(said("set", list, place, v), cam.set(list, place, v), slow.set(list, place, v));
        }
        if (random.nextInt(8) == 0) k = any(0, pieces - 1);
        same(said("seen", list, i, n, k), cam.seen(list, i, n, k), slow.seen(list, i, n, k));
    }

    /** A list is read through. */
    private void wholeRow() {
        if (random.nextInt(8) > 0) return;
        int list = random.nextInt(4);
        for (int i = -1; i <= 30; i++) same(said("get", list, i), cam.get(list, i), slow.get(list, i));
    }

    private String goodText() {
        StringBuilder text = new StringBuilder();
        int n = 1 + random.nextInt(random.nextInt(4) == 0 ? 15 : 5);
        for (int k = 0; k < n; k++) {
            int kind = n > 9 ? random.nextInt(2) * random.nextInt(2) : random.nextInt(6);
            if (k > 0) text.append(';');
            int length = 1 + random.nextInt(random.nextInt(9) == 0 ? 360 : n > 9 ? 9 : 99);
            text.append(WORDS[kind]).append(' ');
            if (n < 10 && random.nextInt(9) == 0) text.append('0');
            text.append(length);
            if (kind > 0) text.append(' ').append(n > 9 ? 1 + random.nextInt(9) : rise(kind));
        }
        return text.toString();
    }

    private String spoilt(String text) {
        if (random.nextInt(4) == 0) return text;
        String others = "-0123456789 ;alswy,A`{/:";
        StringBuilder other = new StringBuilder(text);
        int times = random.nextInt(4) == 0 ? 2 : 1;
        for (int i = 0; i < times && other.length() > 0; i++) {
            int place = random.nextInt(other.length());
            char sign = others.charAt(random.nextInt(others.length()));
            switch (random.nextInt(5)) {
                case 0: other.deleteCharAt(place); break;
                case 1: other.setCharAt(place, sign); break;
                case 2: other.setLength(place); break;
                default: other.insert(place, sign); break;
            }
        }
        return other.toString();
    }

    private void text(String text) {
        if (random.nextInt(9) > 0) same("clear()", cam.clear(), slow.clear());
        for (int i = 0; i < text.length() && i < 125; i++) {
            int letter = random.nextInt(200) == 0 ? any(1, 127) : text.charAt(i);
            same(said("feed", letter), cam.feed(letter), slow.feed(letter));
        }
        same("cam() of " + text, cam.cam(), slow.cam());
        same("cause()", cam.cause(), slow.cause());
        same("told(9)", cam.told(9), slow.told(9));
    }
}
