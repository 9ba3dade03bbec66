/** What the tests of single sentences share: the sentence under test, cams by numbers and by texts, answers in rows. */
abstract class Edge {
    static final int DWELL = 0, LINE = 1, START = 2, STOP = 3, CUBIC = 4, QUINTIC = 5;
    static final int NONE = -1, BAD = -2, STATE = -3, FULL = -4, THERE_IS_NONE = -5;
    static final int NOTHING = -11, BEYOND = -13, BELOW = -14, CANNOT_PUT = -999, NO_PART = -9999;
    static final int LOW = Integer.MIN_VALUE, HIGH = Integer.MAX_VALUE;
    static final long NO = Long.MIN_VALUE;
    static final String[] WORDS = {"dwell", "line", "start", "stop", "cubic", "quintic"};

    private final Checks checks;
    private String sentence = "";

    Edge(String name) {
        checks = new Checks(name);
    }

    /** From here on the answers are those by which this sentence of the document stands or falls. */
    void says(String words) {
        sentence = words;
    }

    void due(String call, long got, long want) {
        checks.due("\"" + sentence + "\": " + call, got, want);
    }

    void dueAll(String call, long[] got, long... want) {
        due(call + ", how many", got.length, want.length);
        for (int i = 0; i < want.length && i < got.length; i++) due(call + " [" + i + "]", got[i], want[i]);
    }

    void dueFraction(String call, long above, long below, long wantAbove, long wantBelow) {
        due(call + ", above", above, wantAbove);
        due(call + ", below", below, wantBelow);
    }

    void dueAt(CamPieces x, int angle, int side, int what, long above, long below) {
        String call = "at(" + angle + ", " + side + ", " + what + ")";
        dueFraction(call, x.at(angle, side, what, 0), x.at(angle, side, what, 1), above, below);
    }

    void dueJump(CamPieces x, int join, int what, long above, long below) {
        dueFraction("jump(" + join + ", " + what + ")", x.jump(join, what, 0), x.jump(join, what, 1), above, below);
    }

    void duePieces(String call, CamPieces x, long... want) {
        dueAll(call, parts(x), want);
    }

    void end() {
        checks.end();
    }

    static long[] row(long... numbers) {
        return numbers;
    }

    /** A cam of KIND, LONG, RISE, KIND, LONG, RISE, .. */
    static CamPieces cam(int... parts) {
        CamPieces x = new CamPieces();
        for (int i = 0; i + 2 < parts.length; i += 3) {
            if (x.piece(parts[i], parts[i + 1], parts[i + 2]) != i / 3) throw new IllegalStateException("piece " + i / 3);
        }
        return x;
    }

    /** Twelve LINES, eleven of them of LONG 1. */
    static CamPieces twelve(int lastLength, int rise, int lastRise) {
        CamPieces x = new CamPieces();
        for (int k = 0; k < 11; k++) {
            if (x.piece(LINE, 1, rise) != k) throw new IllegalStateException("piece " + k);
        }
        if (x.piece(LINE, lastLength, lastRise) != 11) throw new IllegalStateException("the last piece");
        return x;
    }

    static void feed(CamPieces x, String text) {
        x.clear();
        for (int i = 0; i < text.length(); i++) x.feed(text.charAt(i));
    }

    /** All parts of all pieces: KIND, LONG, RISE, .. */
    static long[] parts(CamPieces x) {
        long[] parts = new long[3 * x.told(6)];
        for (int i = 0; i < parts.length; i++) parts[i] = x.of(i / 3, i % 3);
        return parts;
    }

    static long[] places(CamPieces x, int list, int n) {
        long[] row = new long[n];
        for (int i = 0; i < n; i++) row[i] = x.get(list, i);
        return row;
    }
}
