import java.util.ArrayList;
import java.util.List;

/**
 * Refused calls: which of two refusals is the answer, and that behind each nothing has changed. A refused call is made on
 * one of two twins; what all later calls answer must be the same of both, THE TAPE's bytes, THE IMAGE, LISTS included.
 */
public final class RefusedTests extends Edge {
    private static final String FULL_TAPE =
        "quintic 10 1;quintic 10 1;quintic 10 1;quintic 10 1;quintic 10 1;"
        + "quintic 10 -1;quintic 10 -1;quintic 10 -1;quintic 10 -1";

    private interface Call {
        long on(CamPieces x);
    }

    /** How the twins are made. */
    private enum Made { NEW, OPEN, FULL, CLOSED }

    private RefusedTests() {
        super("refused calls");
    }

    public static void main(String[] args) {
        RefusedTests t = new RefusedTests();
        t.refusedWhenNew(); t.refusedPieces(); t.refusedWhenFull(); t.refusedSettings(); t.refusedAsked(); t.refusedSamples();
        t.refusedTapeAndLists(); t.twoRefusalsPiece(); t.twoRefusalsOthers(); t.twoRefusalsLay(); t.twoRefusalsSeen();
        t.refusedCam(); t.layBeyondAlone(); t.askedChangesNothing(); t.farNumbers();
        t.end();
    }

    // ---- twins

    private static CamPieces make(Made made) {
        if (made == Made.NEW) return new CamPieces();
        if (made == Made.OPEN) return makeOpen();
        return made == Made.FULL ? makeFull() : makeClosed();
    }

    /** Three pieces, room for more; lists of nothing, 0, 30, 5; a tape with room; an image of one piece; a cause. */
    private static CamPieces makeOpen() {
        CamPieces x = new CamPieces();
        feed(x, "dwell 0");
        x.cam();
        x.piece(CUBIC, 7, 8);
        x.tell(0, 222);
        x.image();
        x.drop();
        x.piece(START, 40, 10);
        x.piece(LINE, 30, -17);
        x.piece(DWELL, 20, 0);
        for (int what = 0; what < 6; what++) x.tell(what, 11 + what);
        x.list(1, 0);
        x.list(2, 30);
        x.list(3, 5);
        for (int i = 0; i < 30; i++) x.set(2, i, 100 + i);
        for (int i = 0; i < 5; i++) x.set(3, i, 200 + i);
        feed(x, "line 5 5;dwell 7");
        return x;
    }

    /** Twelve pieces, TOTAL 360, a full tape, an image of none; all lists of 30. */
    private static CamPieces makeFull() {
        CamPieces x = new CamPieces();
        x.image();
        for (int k = 0; k < 11; k++) x.piece(k % 5 + 1, 1, 9);
        x.piece(CUBIC, 349, -98);
        for (int list = 0; list < 4; list++) x.list(list, 30);
        for (int list = 0; list < 4; list++) x.set(list, 29, list + 1);
        feed(x, FULL_TAPE);
        return x;
    }

    /** Two pieces, CLOSED, an empty tape; no lists, no image. */
    private static CamPieces makeClosed() {
        return cam(STOP, 180, 9, START, 180, -9);
    }

    private void refused(Made made, String call, long want, Call what) {
        CamPieces one = make(made), twin = make(made);
        due(made + ": " + call, what.on(one), want);
        dueSameFate(made + " behind " + call, one, twin);
    }

    private void dueSameFate(String call, CamPieces one, CamPieces twin) {
        due(call + ", cause", one.cause(), twin.cause());
        dueSame(call, one, twin);
        dueSameLists(call, one, twin);
        due(call + ", cam", one.cam(), twin.cam());
        due(call + ", its cause", one.cause(), twin.cause());
        dueSame(call + ", cam", one, twin);
        due(call + ", undo", one.undo(), twin.undo());
        dueSame(call + ", undo", one, twin);
    }

    private void dueSame(String call, CamPieces one, CamPieces twin) {
        for (int what = 0; what <= 9; what++) due(call + ", told " + what, one.told(what), twin.told(what));
        for (int k = 0; k < 13; k++) {
            for (int what = 0; what <= 2; what++) {
                due(call + ", of(" + k + ", " + what + ")", one.of(k, what), twin.of(k, what));
            }
        }
    }

    private void dueSameLists(String call, CamPieces one, CamPieces twin) {
        for (int list = 0; list < 4; list++) {
            due(call + ", list " + list, one.set(list, 30, 1), twin.set(list, 30, 1));
            for (int i = 0; i <= 30; i++) due(call + ", get(" + list + ", " + i + ")", one.get(list, i), twin.get(list, i));
        }
    }

    // ---- one refusal

    private void refusedWhenNew() {
        says("What is answered so changes nothing (a new object)");
        refused(Made.NEW, "drop", STATE, CamPieces::drop);
        refused(Made.NEW, "undo", STATE, CamPieces::undo);
        refused(Made.NEW, "put", CANNOT_PUT, x -> x.put(0, 1, 5));
        refused(Made.NEW, "of", NO_PART, x -> x.of(0, 0));
        refused(Made.NEW, "alike", NONE, x -> x.alike(0));
        refused(Made.NEW, "unlike", NONE, x -> x.unlike(0));
        refused(Made.NEW, "steepestPiece", THERE_IS_NONE, CamPieces::steepestPiece);
        refused(Made.NEW, "at", NO, x -> x.at(0, 1, 0, 0));
        refused(Made.NEW, "jump", NO, x -> x.jump(0, 0, 0));
        refused(Made.NEW, "join", NONE, x -> x.join(0));
        refused(Made.NEW, "extreme", THERE_IS_NONE, x -> x.extreme(1));
        refused(Made.NEW, "steepest", THERE_IS_NONE, CamPieces::steepest);
        refused(Made.NEW, "floating", THERE_IS_NONE, CamPieces::floating);
        refused(Made.NEW, "sample", NO, x -> x.sample(0));
        refused(Made.NEW, "error", NO, x -> x.error(1, 0));
        refused(Made.NEW, "widest", STATE, x -> x.widest(0));
        refused(Made.NEW, "lay", NOTHING, x -> x.lay(0, 0, 0, 1, 0));
        refused(Made.NEW, "seen", NONE, x -> x.seen(0, 0, 1, 0));
        refused(Made.NEW, "set", NOTHING, x -> x.set(0, 0, 1));
        refused(Made.NEW, "get", NO, x -> x.get(0, 0));
        refused(Made.NEW, "list 31", BAD, x -> x.list(0, 31));
        refused(Made.NEW, "list -1", BELOW, x -> x.list(0, -1));
        refused(Made.NEW, "feed", BAD, x -> x.feed(0));
    }

    private void refusedPieces() {
        says("What is answered so changes nothing (pieces)");
        refused(Made.OPEN, "piece, kind", NONE, x -> x.piece(6, 5, 5));
        refused(Made.OPEN, "piece, length 0", BAD, x -> x.piece(LINE, 0, 5));
        refused(Made.OPEN, "piece, length 361", BAD, x -> x.piece(LINE, 361, 5));
        refused(Made.OPEN, "piece, rise 100", BAD, x -> x.piece(LINE, 5, 100));
        refused(Made.OPEN, "piece, rise 0", BAD, x -> x.piece(LINE, 5, 0));
        refused(Made.OPEN, "piece, rise of a dwell", BAD, x -> x.piece(DWELL, 5, 1));
        refused(Made.OPEN, "piece, 271 are too many", STATE, x -> x.piece(LINE, 271, 5));
        refused(Made.OPEN, "put, piece 3", CANNOT_PUT, x -> x.put(3, 1, 5));
        refused(Made.OPEN, "put, piece -1", CANNOT_PUT, x -> x.put(-1, 1, 5));
        refused(Made.OPEN, "put, what 3", CANNOT_PUT, x -> x.put(0, 3, 5));
        refused(Made.OPEN, "put, what -1", CANNOT_PUT, x -> x.put(0, -1, 5));
        refused(Made.OPEN, "put, kind 6", CANNOT_PUT, x -> x.put(0, 0, 6));
        refused(Made.OPEN, "put, a dwell with a rise", CANNOT_PUT, x -> x.put(0, 0, DWELL));
        refused(Made.OPEN, "put, a line without one", CANNOT_PUT, x -> x.put(2, 0, LINE));
        refused(Made.OPEN, "put, length 0", CANNOT_PUT, x -> x.put(1, 1, 0));
        refused(Made.OPEN, "put, TOTAL 361", CANNOT_PUT, x -> x.put(1, 1, 301));
        refused(Made.OPEN, "put, rise 0", CANNOT_PUT, x -> x.put(1, 2, 0));
        refused(Made.OPEN, "put, rise -100", CANNOT_PUT, x -> x.put(1, 2, -100));
        refused(Made.OPEN, "put, rise of a dwell", CANNOT_PUT, x -> x.put(2, 2, 1));
        refused(Made.OPEN, "of, piece 3", NO_PART, x -> x.of(3, 0));
        refused(Made.OPEN, "of, what 5", NO_PART, x -> x.of(0, 5));
        refused(Made.OPEN, "alike 3", NONE, x -> x.alike(3));
        refused(Made.OPEN, "unlike 3", NONE, x -> x.unlike(3));
    }

    private void refusedWhenFull() {
        says("What is answered so changes nothing (twelve PIECES, TOTAL 360, THE TAPE full)");
        refused(Made.FULL, "piece", FULL, x -> x.piece(LINE, 1, 1));
        refused(Made.FULL, "put, TOTAL 361", CANNOT_PUT, x -> x.put(11, 1, 350));
        refused(Made.FULL, "put, piece 12", CANNOT_PUT, x -> x.put(12, 2, 5));
        refused(Made.FULL, "feed", FULL, x -> x.feed('1'));
        refused(Made.FULL, "feed 128", BAD, x -> x.feed(128));
        refused(Made.CLOSED, "piece", STATE, x -> x.piece(DWELL, 1, 0));
        refused(Made.CLOSED, "put, TOTAL 361", CANNOT_PUT, x -> x.put(0, 1, 181));
        refused(Made.CLOSED, "undo", STATE, CamPieces::undo);
    }

    private void refusedSettings() {
        says("What is answered so changes nothing (settings)");
        int[] least = {1, 1, 0, 0, 0, 1}, most = {999, 20, 99, 9999, 30, 1000};
        for (int which = 0; which < 6; which++) {
            int what = which;
            refused(Made.OPEN, "tell " + what + ", less", BAD, x -> x.tell(what, least[what] - 1));
            refused(Made.OPEN, "tell " + what + ", more", BAD, x -> x.tell(what, most[what] + 1));
        }
        refused(Made.OPEN, "tell -1", NONE, x -> x.tell(-1, 5));
        refused(Made.OPEN, "tell 6", NONE, x -> x.tell(6, 5));
        refused(Made.OPEN, "told -1", NONE, x -> x.told(-1));
        refused(Made.OPEN, "told 10", NONE, x -> x.told(10));
    }

    private void refusedAsked() {
        says("What is answered so changes nothing (as it is, in thought)");
        refused(Made.OPEN, "at, side 0 of 0", NO, x -> x.at(0, 0, 0, 0));
        refused(Made.OPEN, "at, side 1 of the last", NO, x -> x.at(90, 1, 0, 0));
        refused(Made.OPEN, "at, what 3", NO, x -> x.at(5, 0, 3, 0));
        refused(Made.OPEN, "jump 0", NO, x -> x.jump(0, 0, 0));
        refused(Made.OPEN, "jump, part 2", NO, x -> x.jump(1, 0, 2));
        refused(Made.OPEN, "join 0", NONE, x -> x.join(0));
        refused(Made.OPEN, "joins 3", NONE, x -> x.joins(3));
        refused(Made.OPEN, "extreme 2", NONE, x -> x.extreme(2));
        refused(Made.OPEN, "curve, part 2", NO, x -> x.curve(5, 0, 2));
        refused(Made.OPEN, "pressure, side 2", NO, x -> x.pressure(5, 2, 0));
        refused(Made.OPEN, "force, angle 91", NO, x -> x.force(91, 0, 0));
        refused(Made.OPEN, "count 2", NONE, x -> x.count(2));
        refused(Made.OPEN, "gentle 1000", BAD, x -> x.gentle(1000));
        refused(Made.OPEN, "gentle 0", THERE_IS_NONE, x -> x.gentle(0));
        refused(Made.CLOSED, "at, side 2", NO, x -> x.at(0, 2, 0, 0));
        refused(Made.CLOSED, "at, angle 361", NO, x -> x.at(361, 0, 0, 0));
        refused(Made.CLOSED, "jump 2", NO, x -> x.jump(2, 0, 0));
        refused(Made.FULL, "join 12", NONE, x -> x.join(12));
    }

    private void refusedSamples() {
        says("What is answered so changes nothing (samples)");
        refused(Made.OPEN, "sample 91", NO, x -> x.sample(91));
        refused(Made.OPEN, "error 0", NO, x -> x.error(0, 0));
        refused(Made.OPEN, "error 61", NO, x -> x.error(61, 0));
        refused(Made.OPEN, "widest 10000", BAD, x -> x.widest(10000));
        refused(Made.OPEN, "lay, list 4", NONE, x -> x.lay(4, 0, 0, 1, 1));
        refused(Made.OPEN, "lay, nothing", NOTHING, x -> x.lay(0, 0, 0, 1, 1));
        refused(Made.OPEN, "lay, the last isn't there", BAD, x -> x.lay(2, 0, 80, 1, 12));
        refused(Made.OPEN, "lay, the first isn't there", BAD, x -> x.lay(2, 0, -1, 1, 5));
        refused(Made.OPEN, "lay, step 61", BAD, x -> x.lay(2, 0, 0, 61, 2));
        refused(Made.OPEN, "lay, n 31", BAD, x -> x.lay(2, 0, 0, 1, 31));
        refused(Made.OPEN, "lay, place -1", BEYOND, x -> x.lay(2, -1, 0, 1, 5));
        refused(Made.OPEN, "lay, place 30", BEYOND, x -> x.lay(2, 30, 0, 1, 5));
        refused(Made.OPEN, "lay, row of 0", BEYOND, x -> x.lay(1, 0, 0, 1, 5));
        refused(Made.OPEN, "lay, none of them", 0, x -> x.lay(2, 7, 0, 1, 0));
        refused(Made.OPEN, "seen, list 4", NONE, x -> x.seen(4, 0, 1, 0));
        refused(Made.OPEN, "seen, piece 3", NONE, x -> x.seen(2, 0, 1, 3));
        refused(Made.OPEN, "seen, nothing", NOTHING, x -> x.seen(0, 0, 1, 0));
        refused(Made.OPEN, "seen, n 31", BAD, x -> x.seen(2, 0, 31, 0));
        refused(Made.OPEN, "seen, n 22 of LONG 20", BAD, x -> x.seen(2, 0, 22, 2));
        refused(Made.OPEN, "seen, place 30", BEYOND, x -> x.seen(2, 30, 1, 0));
        refused(Made.OPEN, "seen, row of 0", BEYOND, x -> x.seen(1, 0, 1, 0));
    }

    private void refusedTapeAndLists() {
        says("What is answered so changes nothing (THE TAPE, LISTS)");
        refused(Made.OPEN, "feed 0", BAD, x -> x.feed(0));
        refused(Made.OPEN, "feed 128", BAD, x -> x.feed(128));
        refused(Made.OPEN, "feed far", BAD, x -> x.feed(HIGH));
        refused(Made.OPEN, "list 4", NONE, x -> x.list(4, 5));
        refused(Made.OPEN, "list -1", NONE, x -> x.list(-1, 5));
        refused(Made.OPEN, "size 31", BAD, x -> x.list(2, 31));
        refused(Made.OPEN, "size -1", BELOW, x -> x.list(2, -1));
        refused(Made.OPEN, "size -1 where nothing is", BELOW, x -> x.list(0, -1));
        refused(Made.OPEN, "set, list 4", NONE, x -> x.set(4, 0, 5));
        refused(Made.OPEN, "set, nothing", NOTHING, x -> x.set(0, 0, 5));
        refused(Made.OPEN, "set, place 30", BEYOND, x -> x.set(2, 30, 5));
        refused(Made.OPEN, "set, place -1", BEYOND, x -> x.set(3, -1, 5));
        refused(Made.OPEN, "set, row of 5", BEYOND, x -> x.set(3, 5, 5));
        refused(Made.OPEN, "set, row of 0", BEYOND, x -> x.set(1, 0, 5));
        refused(Made.OPEN, "get, list 4", NO, x -> x.get(4, 0));
        refused(Made.OPEN, "get, place 5", NO, x -> x.get(3, 5));
        refused(Made.FULL, "size 31", BAD, x -> x.list(0, 31));
        refused(Made.FULL, "set, place 30", BEYOND, x -> x.set(3, 30, 5));
    }

    // ---- two refusals

    private void twoRefusalsPiece() {
        says("the first that a call's words name: NONE: kind; BAD: length, rise; FULL: twelve; STATE: TOTAL would be above 360");
        refused(Made.OPEN, "NONE, BAD", NONE, x -> x.piece(6, 0, 5));
        refused(Made.OPEN, "NONE, BAD", NONE, x -> x.piece(-1, 5, 100));
        refused(Made.OPEN, "NONE, BAD", NONE, x -> x.piece(6, 361, -100));
        refused(Made.FULL, "NONE, FULL, STATE", NONE, x -> x.piece(6, 1, 1));
        refused(Made.CLOSED, "NONE, STATE", NONE, x -> x.piece(-1, 1, 1));
        refused(Made.FULL, "BAD, FULL, STATE", BAD, x -> x.piece(LINE, 0, 1));
        refused(Made.FULL, "BAD, FULL, STATE", BAD, x -> x.piece(LINE, 1, 0));
        refused(Made.CLOSED, "BAD, STATE", BAD, x -> x.piece(DWELL, 1, 1));
        refused(Made.CLOSED, "BAD, STATE", BAD, x -> x.piece(LINE, 361, 1));
        refused(Made.OPEN, "BAD, STATE", BAD, x -> x.piece(CUBIC, 271, 100));
        refused(Made.FULL, "FULL, STATE", FULL, x -> x.piece(LINE, 1, 1));
        refused(Made.FULL, "FULL, STATE", FULL, x -> x.piece(DWELL, 360, 0));
        due("FULL alone", twelve(1, 1, 1).piece(LINE, 1, 1), FULL);
    }

    private void twoRefusalsOthers() {
        says("the first that a call's words name (-5 is told only where none of them is)");
        refused(Made.OPEN, "tell: NONE, BAD", NONE, x -> x.tell(6, -1));
        refused(Made.OPEN, "tell: NONE, BAD", NONE, x -> x.tell(-1, HIGH));
        refused(Made.NEW, "extreme: NONE, -5", NONE, x -> x.extreme(2));
        refused(Made.NEW, "gentle: BAD, none", BAD, x -> x.gentle(-1));
        refused(Made.CLOSED, "gentle: BAD, -5", BAD, x -> x.gentle(-1));
        refused(Made.NEW, "widest: BAD, STATE", BAD, x -> x.widest(-1));
        refused(Made.NEW, "widest: BAD, STATE", BAD, x -> x.widest(10000));
        refused(Made.FULL, "feed: BAD, FULL", BAD, x -> x.feed(0));
        refused(Made.OPEN, "list: NONE, BAD", NONE, x -> x.list(4, 31));
        refused(Made.OPEN, "list: NONE, BELOW", NONE, x -> x.list(-1, -1));
        refused(Made.OPEN, "set: NONE, BEYOND", NONE, x -> x.set(4, -1, 5));
        refused(Made.OPEN, "set: NOTHING, BEYOND", NOTHING, x -> x.set(0, -1, 5));
        refused(Made.OPEN, "set: NOTHING, BEYOND", NOTHING, x -> x.set(0, 30, 5));
        refused(Made.NEW, "put: piece, what, v", CANNOT_PUT, x -> x.put(0, 3, -1));
        refused(Made.NEW, "of: piece, what", NO_PART, x -> x.of(0, 5));
        refused(Made.NEW, "error: step, part, no PIECES", NO, x -> x.error(0, 2));
        refused(Made.NEW, "get: list, place", NO, x -> x.get(4, -1));
    }

    private void twoRefusalsLay() {
        says("NONE: list; NOTHING; BAD: angle, step, n, one of these ANGLES isn't there; BEYOND: not all were");
        refused(Made.OPEN, "NONE, BAD", NONE, x -> x.lay(4, 0, 91, 1, 1));
        refused(Made.OPEN, "NONE, BAD", NONE, x -> x.lay(-1, 0, 0, 0, 31));
        refused(Made.OPEN, "NONE, BEYOND", NONE, x -> x.lay(4, -1, 0, 1, 1));
        refused(Made.NEW, "NONE, BAD for there is no ANGLE", NONE, x -> x.lay(4, 0, 0, 1, 1));
        refused(Made.OPEN, "NOTHING, BAD", NOTHING, x -> x.lay(0, 0, 91, 1, 1));
        refused(Made.OPEN, "NOTHING, BAD", NOTHING, x -> x.lay(0, 0, 0, 61, 1));
        refused(Made.OPEN, "NOTHING, BAD", NOTHING, x -> x.lay(0, 0, 0, 1, -1));
        refused(Made.OPEN, "NOTHING, BEYOND", NOTHING, x -> x.lay(0, -1, 0, 1, 1));
        refused(Made.NEW, "NOTHING, BAD for there is no ANGLE", NOTHING, x -> x.lay(0, 0, 0, 1, 1));
        refused(Made.OPEN, "BAD, BEYOND", BAD, x -> x.lay(2, 29, 90, 1, 2));
        refused(Made.OPEN, "BAD, BEYOND", BAD, x -> x.lay(2, -1, 0, 0, 2));
        refused(Made.OPEN, "BAD, BEYOND", BAD, x -> x.lay(3, 5, 0, 1, 31));
        refused(Made.OPEN, "BAD, BEYOND", BAD, x -> x.lay(1, 0, 91, 1, 1));
    }

    private void twoRefusalsSeen() {
        says("NONE: list, piece; NOTHING; BAD: n ..; BEYOND");
        refused(Made.OPEN, "NONE (list), BAD", NONE, x -> x.seen(4, 0, 31, 0));
        refused(Made.OPEN, "NONE (list), BEYOND", NONE, x -> x.seen(-1, -1, 1, 0));
        refused(Made.OPEN, "NONE (both)", NONE, x -> x.seen(4, 0, 1, 3));
        refused(Made.OPEN, "NONE (piece), NOTHING", NONE, x -> x.seen(0, 0, 1, 3));
        refused(Made.OPEN, "NONE (piece), BAD", NONE, x -> x.seen(2, 0, 0, -1));
        refused(Made.OPEN, "NONE (piece), BEYOND", NONE, x -> x.seen(2, 30, 1, 3));
        refused(Made.OPEN, "NOTHING, BAD", NOTHING, x -> x.seen(0, 0, 0, 0));
        refused(Made.OPEN, "NOTHING, BAD", NOTHING, x -> x.seen(0, 0, 31, 0));
        refused(Made.OPEN, "NOTHING, BEYOND", NOTHING, x -> x.seen(0, -1, 1, 0));
        refused(Made.OPEN, "BAD, BEYOND", BAD, x -> x.seen(2, 30, 0, 0));
        refused(Made.OPEN, "BAD, BEYOND", BAD, x -> x.seen(2, -1, 31, 0));
        refused(Made.OPEN, "BAD (LONG), BEYOND", BAD, x -> x.seen(3, 0, 22, 2));
        refused(Made.OPEN, "BAD, BEYOND", BAD, x -> x.seen(1, 0, 0, 0));
    }

    // ---- those that change something

    private void refusedCam() {
        says("-100 less the FAULT; -300 less the UNFIT one (nothing is changed then); THE TAPE is empty behind each call");
        Object[][] texts = {{"", -100, 5}, {"x", -100, 1}, {"dwell 0", -106, 2}, {"line 5 -", -107, 3}, {"dwell 5,", -107, 4},
            {"dwell 5;", -108, 5}, {"dwell 360;dwell 1", -301, 7},
            {"dwell 1;dwell 1;dwell 1;dwell 1;dwell 1;dwell 1;dwell 1;dwell 1;dwell 1;dwell 1;dwell 1;dwell 1;dwell 1", -312, 6}};
        for (Object[] text : texts) {
            CamPieces one = make(Made.OPEN), twin = make(Made.OPEN);
            feed(one, (String) text[0]);
            twin.clear();
            due("cam of " + text[0], one.cam(), (Integer) text[1]);
            due("cause of " + text[0], one.cause(), (Integer) text[2]);
            dueSame("behind " + text[0], one, twin);
            dueSameLists("behind " + text[0], one, twin);
            due("undo behind " + text[0], one.undo(), twin.undo());
            dueSame("undo behind " + text[0], one, twin);
            due("tape behind " + text[0], one.told(9), 0);
        }
    }

    private void layBeyondAlone() {
        says("What is answered so changes nothing (but LISTS by BEYOND, as told)");
        CamPieces one = make(Made.OPEN), twin = make(Made.OPEN);
        due("lay", one.lay(3, 3, 40, 1, 4), BEYOND);
        due("the first", twin.set(3, 3, twin.sample(40)), 1);
        due("the second", twin.set(3, 4, twin.sample(41)), 1);
        dueSameFate("behind it", one, twin);
    }

    // ---- what is asked

    private void askedChangesNothing() {
        says("what is asked changes nothing but LISTS that are told");
        List<Call> asked = new ArrayList<>(List.of(x -> x.of(1, 4), x -> x.told(8), x -> x.alike(1), x -> x.unlike(-1),
            x -> x.unlike(0), CamPieces::steepestPiece, CamPieces::leastRadius, CamPieces::steepest, CamPieces::floating,
            CamPieces::leastPreload));
        asked.addAll(List.of(CamPieces::leastStiff, CamPieces::fastest, CamPieces::smoothed, x -> x.gentle(500),
            x -> x.error(7, 0), x -> x.widest(50), x -> x.sample(1), x -> x.at(1, 0, 1, 1), x -> x.jump(1, 0, 0),
            x -> x.join(1)));
        asked.addAll(List.of(x -> x.joins(0), x -> x.extreme(0), x -> x.curve(1, 0, 0), x -> x.pressure(1, 1, 0),
            x -> x.force(1, 0, 1), x -> x.count(0), x -> x.count(1), x -> x.seen(2, 0, 2, 0), x -> x.get(2, 29),
            CamPieces::cause));
        for (Made made : Made.values()) {
            CamPieces one = make(made), twin = make(made);
            for (int i = 0; i < asked.size(); i++) {
                long first = asked.get(i).on(one);
                due(made + ", asked twice " + i, asked.get(i).on(one), first);
            }
            dueSameFate(made + ", asked", one, twin);
        }
    }

    private void farNumbers() {
        says("NONE (-1) no such number; BAD (-2) a number is not as told");
        int[] far = {LOW, LOW + 1, -1000000007, 1000000007, HIGH - 1, HIGH};
        for (int v : far) {
            CamPieces one = make(Made.OPEN), twin = make(Made.OPEN);
            dueAll("pieces, far " + v, row(one.piece(v, v, v), one.piece(1, v, 1), one.piece(1, 1, v), one.put(v, v, v),
                one.put(1, v, 1), one.put(1, 1, v), one.of(v, v), one.tell(v, v), one.tell(0, v), one.told(v), one.alike(v),
                one.unlike(v)), NONE, BAD, BAD, -999, -999, -999, -9999, NONE, BAD, NONE, NONE, NONE);
            dueAll("as it is, far " + v, row(one.at(v, v, v, v), one.at(v, 0, 0, 0), one.jump(v, v, v), one.join(v),
                one.joins(v), one.extreme(v), one.curve(v, v, v), one.pressure(v, 0, 0), one.force(v, 1, 0), one.count(v)),
                NO, NO, NO, NONE, NONE, NONE, NO, NO, NO, NONE);
            dueAll("samples, far " + v, row(one.gentle(v), one.sample(v), one.error(v, 0), one.error(1, v), one.widest(v),
                one.lay(v, v, v, v, v), one.lay(2, 0, v, 1, 1), one.lay(2, 0, 0, v, 2), one.lay(2, 0, 0, 1, v),
                one.lay(2, v, 0, 1, 2), one.seen(v, v, v, v), one.seen(2, v, 2, 0), one.seen(2, 0, v, 0), one.seen(2, 0, 2, v)),
                BAD, NO, NO, NO, BAD, NONE, BAD, BAD, BAD, BEYOND, NONE, BEYOND, BAD, NONE);
            dueAll("rows, far " + v, row(one.feed(v), one.list(v, v), one.list(2, v), one.set(v, v, v), one.set(2, v, v),
                one.get(v, v), one.get(2, v)), BAD, NONE, v < 0 ? BELOW : BAD, NONE, BEYOND, NO, NO);
            dueSameFate("far " + v, one, twin);
        }
    }
}
