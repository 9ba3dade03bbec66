import java.util.ArrayList;
import java.util.List;
import java.util.Random;

/**
 * A cam that was come by in another way (pieces dropped, put, mirrored, read from a text, brought back by undo(), an image
 * of another one kept) answers as one that was made piece by piece: nothing of what was there ahead is left in it.
 */
public final class WaysTests extends Edge {
    /** Pieces of the cam, settings of what 0 to 5. */
    private record Aim(String name, int[] parts, int[] settings) { }

    private static final int[] FIRST = {100, 1, 1, 10, 1, 100}, OTHERS = {7, 3, 5, 900, 2, 13}, STIFFLY = {100, 1, 10, 10, 1, 100};
    /** Steeper, higher and shorter than most; twelve of them. */
    private static final int[] STEEP = {
        LINE, 1, 99, STOP, 1, 99, START, 2, -99, LINE, 1, -99, CUBIC, 3, 98, QUINTIC, 2, -98,
        STOP, 1, 97, START, 1, 96, LINE, 1, -99, LINE, 1, 99, STOP, 2, -99, LINE, 1, 99,
    };
    private static final int[] CLOSED = {LINE, 90, 99, CUBIC, 90, -80, START, 90, -60, STOP, 90, 41};
    private static final int[] OPEN = {LINE, 3, 50, DWELL, 20, 0, STOP, 9, -90, LINE, 2, -30};

    private WaysTests() {
        super("ways to a cam");
    }

    public static void main(String[] args) {
        WaysTests t = new WaysTests();
        for (Aim aim : aims()) {
            t.dropped(aim); t.readFromText(aim); t.broughtBack(aim); t.putInto(aim); t.mirroredTwice(aim);
            t.besideAnImage(aim, CLOSED); t.besideAnImage(aim, OPEN); t.besideAnImage(aim, STEEP); t.askedAhead(aim);
        }
        t.end();
    }

    private static List<Aim> aims() {
        List<Aim> aims = new ArrayList<>();
        aims.add(new Aim("none", new int[0], FIRST));
        aims.add(new Aim("one dwell", new int[] {DWELL, 360, 0}, OTHERS));
        aims.add(new Aim("closed", new int[] {START, 40, 10, STOP, 40, 10, DWELL, 60, 0, CUBIC, 220, -20}, FIRST));
        aims.add(new Aim("risen", new int[] {LINE, 40, 60, STOP, 40, 30}, OTHERS));
        aims.add(new Aim("risen, on a stiff spring", new int[] {LINE, 40, 60, STOP, 40, 30}, STIFFLY));
        aims.add(new Aim("fallen", new int[] {QUINTIC, 40, -6, START, 40, -3}, FIRST));
        Random random = new Random(42);
        for (int i = 0; i < 40; i++) {
            aims.add(new Aim("open " + i, someParts(random, false), someSettings(random)));
            aims.add(new Aim("closed " + i, someParts(random, true), someSettings(random)));
        }
        return aims;
    }

    private static int[] someParts(Random random, boolean isClosed) {
        int n = 2 + random.nextInt(7), total = 0, lift = 0;
        int[] parts = new int[3 * n];
        for (int k = 0; k < n; k++) {
            boolean isLast = k == n - 1;
            int kind = isLast && isClosed && lift != 0 ? 1 + random.nextInt(5) : random.nextInt(6);
            int rise = kind == DWELL ? 0 : (lift > 0 ? -1 : 1) * (1 + random.nextInt(40));
            if (isLast && isClosed) {
                rise = -lift;
                if (rise == 0) kind = DWELL;
            }
            parts[3 * k] = kind;
            parts[3 * k + 1] = isLast && isClosed ? 360 - total : 1 + random.nextInt(40);
            parts[3 * k + 2] = rise;
            total += parts[3 * k + 1];
            lift += rise;
        }
        return parts;
    }

    private static int[] someSettings(Random random) {
        return new int[] {1 + random.nextInt(120), 1 + random.nextInt(3), random.nextInt(9), random.nextInt(2000),
            random.nextInt(4), 1 + random.nextInt(200)};
    }

    // ---- the ways

    private static void add(CamPieces x, int[] parts) {
        for (int i = 0; i + 2 < parts.length; i += 3) x.piece(parts[i], parts[i + 1], parts[i + 2]);
    }

    private static void dropAll(CamPieces x) {
        while (x.told(6) > 0) x.drop();
    }

    private static void tellAll(CamPieces x, int[] settings) {
        for (int what = 0; what < settings.length; what++) x.tell(what, settings[what]);
    }

    private static CamPieces plain(Aim aim) {
        CamPieces x = cam(aim.parts);
        tellAll(x, aim.settings);
        return x;
    }

    private void dropped(Aim aim) {
        says("drop: The last PIECE goes");
        CamPieces x = cam(STEEP);
        tellAll(x, aim.settings);
        dropAll(x);
        add(x, aim.parts);
        dueLike(aim, x);
    }

    private void readFromText(Aim aim) {
        if (aim.parts.length == 0) return;
        says("THE TAPE is a CAM, whose PIECES these are then (others go)");
        CamPieces x = cam(STEEP);
        StringBuilder text = new StringBuilder();
        for (int i = 0; i < aim.parts.length; i += 3) {
            text.append(i == 0 ? "" : ";").append(WORDS[aim.parts[i]]).append(' ').append(aim.parts[i + 1]);
            if (aim.parts[i] != DWELL) text.append(' ').append(aim.parts[i + 2]);
        }
        if (text.length() > 120) return;
        tellAll(x, aim.settings);
        feed(x, text.toString());
        due(text.toString(), x.cam(), aim.parts.length / 3);
        dueLike(aim, x);
    }

    private void broughtBack(Aim aim) {
        says("All is as THE IMAGE");
        CamPieces x = plain(aim);
        x.image();
        dropAll(x);
        add(x, STEEP);
        tellAll(x, new int[] {999, 20, 99, 9999, 30, 1000});
        due("undo", x.undo(), aim.parts.length / 3);
        dueLike(aim, x);
    }

    private void putInto(Aim aim) {
        says("Of a PIECE what 0 KIND, 1 LONG, 2 RISE becomes v");
        CamPieces x = new CamPieces();
        int n = aim.parts.length / 3;
        for (int k = 0; k < n; k++) x.piece(aim.parts[3 * k] == DWELL ? DWELL : LINE, 1, aim.parts[3 * k] == DWELL ? 0 : -77);
        for (int k = n - 1; k >= 0; k--) {
            for (int what = 2; what >= 0; what--) x.put(k, what, aim.parts[3 * k + what]);
        }
        tellAll(x, aim.settings);
        dueLike(aim, x);
    }

    private void mirroredTwice(Aim aim) {
        says("It is MIRRORED");
        CamPieces x = plain(aim);
        due("TOTAL", x.mirror(), x.told(7));
        due("TOTAL again", x.mirror(), x.told(7));
        dueLike(aim, x);
    }

    private void besideAnImage(Aim aim, int[] other) {
        says("THE IMAGE is taken");
        CamPieces x = cam(other);
        tellAll(x, OTHERS);
        x.image();
        dropAll(x);
        add(x, aim.parts);
        tellAll(x, aim.settings);
        dueLike(aim, x);
    }

    private void askedAhead(Aim aim) {
        says("what is asked changes nothing but LISTS that are told");
        CamPieces x = cam(STEEP);
        thoughts(x);
        dropAll(x);
        add(x, aim.parts);
        tellAll(x, aim.settings);
        dueLike(aim, x);
    }

    // ---- what is asked of both

    private void dueLike(Aim aim, CamPieces x) {
        dueAll(aim.name, answers(x), answers(plain(aim)));
    }

    private static long[] answers(CamPieces x) {
        List<Long> all = new ArrayList<>();
        for (int what = 0; what <= 8; what++) all.add((long) x.told(what));
        for (int k = 0; k < 13; k++) pieceAnswers(x, k, all);
        for (int what = 0; what < 3; what++) all.add((long) x.joins(what));
        for (int what = 0; what < 2; what++) all.add((long) x.extreme(what));
        for (int what = 0; what < 2; what++) all.add((long) x.count(what));
        for (long answer : thoughts(x)) all.add(answer);
        int total = x.told(7);
        for (int angle = 0; angle <= total; angle += total / 8 + 1) angleAnswers(x, angle, all);
        angleAnswers(x, total, all);
        return all.stream().mapToLong(Long::longValue).toArray();
    }

    private static void pieceAnswers(CamPieces x, int k, List<Long> all) {
        all.add((long) x.alike(k));
        all.add((long) x.unlike(k - 1));
        for (int what = 0; what < 5; what++) all.add((long) x.of(k, what));
        all.add((long) x.join(k));
        for (int what = 0; what < 2; what++) all.add(x.jump(k, what, 0));
    }

    private static long[] thoughts(CamPieces x) {
        return row(x.steepestPiece(), x.leastRadius(), x.steepest(), x.gentle(30), x.gentle(300), x.floating(),
            x.leastPreload(), x.leastStiff(), x.fastest(), x.smoothed(), x.error(7, 0), x.error(7, 1), x.error(60, 0),
            x.widest(40), x.widest(700));
    }

    private static void angleAnswers(CamPieces x, int angle, List<Long> all) {
        all.add(x.sample(angle));
        for (int side = 0; side < 2; side++) {
            for (int what = 0; what < 3; what++) all.add(x.at(angle, side, what, 0));
            all.add(x.at(angle, side, 0, 1));
            all.add(x.curve(angle, side, 0));
            all.add(x.pressure(angle, side, 0));
            all.add(x.force(angle, side, 0));
        }
    }
}
