/** Each sentence of the promises about pieces, lists and the image: the first and the last number that is taken, and beyond. */
public final class EdgeCallsTests extends Edge {
    private static final int[] FAR = {LOW, -1000000, 1000000, HIGH};

    private EdgeCallsTests() {
        super("edges of calls");
    }

    public static void main(String[] args) {
        EdgeCallsTests t = new EdgeCallsTests();
        t.constants(); t.newObject(); t.dropped(); t.putWhat(); t.putAllThree(); t.ofWhat(); t.ofBegin(); t.tellWhat(); t.tellWas();
        t.toldWhat(); t.mirrored(); t.mirroredTwice(); t.alike(); t.alikeNone(); t.unlike(); t.unlikeNone(); t.steeper();
        t.steepestPieceFirst(); t.atNumbers(); t.jumpNumbers(); t.joinNumbers(); t.whatOfJoins(); t.sightNumbers();
        t.whatOfCounts(); t.sampleNumbers();
        t.listsHoldNothing(); t.listSizes(); t.listAllNought(); t.setPlaces(); t.setNumbers(); t.getPlaces();
        t.layNumbers(); t.layAngles(); t.layNone(); t.layBeyond(); t.layBelow(); t.layThirty(); t.layIntoNone(); t.laySamples();
        t.seenNumbers(); t.seenBeyond(); t.seenLongAnd1(); t.seenEachOfThem(); t.seenDwell(); t.seenAsDwell();
        t.seenWithRisesAhead(); t.seenAll(); t.seenGrid();
        t.imageAndUndo(); t.noImage(); t.imageOfNone(); t.imageOfTwelve(); t.imageTakenAgain(); t.imageHoldsNoMore();
        t.calls512();
        t.end();
    }

    private void constants() {
        says("NONE = -1, BAD = -2, STATE = -3, FULL = -4; NO = Long.MIN_VALUE");
        dueAll("constants", row(CamPieces.NONE, CamPieces.BAD, CamPieces.STATE, CamPieces.FULL, CamPieces.NO), -1, -2, -3, -4, NO);
    }

    private void newObject() {
        says("CamPieces(): No PIECES.");
        CamPieces x = new CamPieces();
        dueAll("told 6 to 9", row(x.told(6), x.told(7), x.told(8), x.told(9)), 0, 0, 0, 0);
        dueAll("nothing to drop, to undo", row(x.drop(), x.undo(), x.cause()), STATE, STATE, -5);
        for (int list = 0; list <= 3; list++) due("list " + list, x.set(list, 0, 1), NOTHING);
        due("the first", x.piece(DWELL, 1, 0), 0);
    }

    // ---- pieces

    private void dropped() {
        says("The last PIECE goes: how many there are. STATE: there is none");
        CamPieces x = twelve(349, 1, 1);
        for (int n = 11; n >= 0; n--) {
            due("drop", x.drop(), n);
            due("no piece " + n, x.of(n, 0), NO_PART);
            due("told", x.told(6), n);
            due("total", x.told(7), n);
        }
        due("none", x.drop(), STATE);
        due("none still", x.told(6), 0);
        due("anew", x.piece(LINE, 360, 1), 0);
    }

    private void putWhat() {
        says("-999: no such PIECE, what; it can't be so, TOTAL would be above 360");
        CamPieces x = cam(LINE, 100, 5, STOP, 100, -7);
        dueAll("what 0, 1, 2", row(x.put(1, 0, CUBIC), x.put(1, 1, 260), x.put(1, 2, 8)), STOP, 100, -7);
        duePieces("then", x, LINE, 100, 5, CUBIC, 260, 8);
        for (int what : new int[] {-1, 3, LOW, HIGH}) due("what " + what, x.put(1, what, 1), CANNOT_PUT);
        for (int piece : new int[] {-1, 2, 11, 12, LOW, HIGH}) due("piece " + piece, x.put(piece, 1, 1), CANNOT_PUT);
        due("261", x.put(1, 1, 261), CANNOT_PUT);
        due("the first longer", x.put(0, 1, 101), CANNOT_PUT);
        due("without pieces", new CamPieces().put(0, 1, 1), CANNOT_PUT);
        CamPieces all = twelve(349, 1, 1);
        due("piece 11", all.put(11, 2, 5), 1);
        due("piece 12", all.put(12, 2, 5), CANNOT_PUT);
        due("of a dropped one", all.drop() == 11 ? all.put(11, 2, 5) : 0, CANNOT_PUT);
    }

    private void putAllThree() {
        says("(all three must be as told then): what it was");
        CamPieces x = cam(LINE, 9, 5);
        dueAll("0 isn't a LINE's RISE, so it can't be made a DWELL in two calls", row(x.put(0, 2, 0), x.put(0, 0, DWELL)),
            CANNOT_PUT, CANNOT_PUT);
        CamPieces y = cam(DWELL, 9, 0);
        dueAll("nor a DWELL another", row(y.put(0, 2, 5), y.put(0, 0, LINE)), CANNOT_PUT, CANNOT_PUT);
        for (int v : FAR) {
            for (int what = 0; what <= 2; what++) due("what " + what + ", " + v, x.put(0, what, v), CANNOT_PUT);
        }
        dueAll("the same again", row(x.put(0, 0, LINE), x.put(0, 1, 9), x.put(0, 2, 5)), LINE, 9, 5);
        duePieces("nothing changed", x, LINE, 9, 5);
        duePieces("nothing changed", y, DWELL, 9, 0);
    }

    private void ofWhat() {
        says("what 0 KIND, 1 LONG, 2 RISE, 3 the ANGLE at which it begins, 4 LIFT there. -9999: NONE");
        CamPieces x = cam(STOP, 20, -7, QUINTIC, 30, 9);
        dueAll("0 to 4", row(x.of(1, 0), x.of(1, 1), x.of(1, 2), x.of(1, 3), x.of(1, 4)), QUINTIC, 30, 9, 20, -7);
        for (int what : new int[] {-1, 5, LOW, HIGH}) due("what " + what, x.of(1, what), NO_PART);
        for (int piece : new int[] {-1, 2, 12, LOW, HIGH}) {
            for (int what = 0; what <= 4; what++) due("piece " + piece + ", what " + what, x.of(piece, what), NO_PART);
        }
        for (int what = 0; what <= 4; what++) due("without pieces", new CamPieces().of(0, what), NO_PART);
    }

    private void ofBegin() {
        says("3 the ANGLE at which it begins, 4 LIFT there");
        CamPieces x = cam(LINE, 359, -99, LINE, 1, 99);
        dueAll("the first and the last", row(x.of(0, 3), x.of(0, 4), x.of(1, 3), x.of(1, 4)), 0, 0, 359, -99);
        CamPieces high = twelve(349, 99, -99), low = twelve(349, -99, 99);
        dueAll("the highest and the lowest", row(high.of(11, 3), high.of(11, 4), low.of(11, 4)), 11, 1089, -1089);
    }

    private void tellWhat() {
        says("What 0 RADIUS .. 5 GRID becomes v ..: NONE: what; BAD");
        CamPieces x = new CamPieces();
        for (int what : new int[] {-1, 6, LOW, HIGH}) {
            for (int v : new int[] {1, 0, -1, LOW, HIGH}) due("what " + what + ", " + v, x.tell(what, v), NONE);
        }
        for (int what = 0; what < 6; what++) {
            for (int v : FAR) due("what " + what + ", " + v, x.tell(what, v), BAD);
        }
    }

    private void tellWas() {
        says("becomes v: what it was");
        CamPieces x = new CamPieces();
        int[] first = {100, 1, 1, 10, 1, 100};
        for (int what = 0; what < 6; what++) dueAll("what " + what, row(x.tell(what, 9), x.tell(what, 9), x.tell(what, 8)),
            first[what], 9, 9);
        for (int what = 0; what < 6; what++) due("told " + what, x.told(what), 8);
    }

    private void toldWhat() {
        says("That (0 to 5), 6 PIECES, 7 TOTAL, 8 whether it is CLOSED, 9 bytes of THE TAPE. NONE");
        CamPieces x = twelve(349, 9, -99);
        feed(x, "ab");
        dueAll("0 to 9", row(x.told(0), x.told(1), x.told(2), x.told(3), x.told(4), x.told(5), x.told(6), x.told(7), x.told(8),
            x.told(9)), 100, 1, 1, 10, 1, 100, 12, 360, 1, 2);
        for (int what : new int[] {-1, 10, LOW, HIGH}) due("what " + what, x.told(what), NONE);
    }

    private void mirrored() {
        says("PIECES come the other way round, each RISE the other way, START for STOP and STOP for START: TOTAL");
        CamPieces x = cam(DWELL, 1, 0, LINE, 2, 99, START, 3, -99, STOP, 4, 1, CUBIC, 5, -1, QUINTIC, 6, 2);
        due("TOTAL", x.mirror(), 21);
        duePieces("six", x, QUINTIC, 6, -2, CUBIC, 5, 1, START, 4, -1, STOP, 3, 99, LINE, 2, -99, DWELL, 1, 0);
        CamPieces one = cam(STOP, 360, 9);
        due("360", one.mirror(), 360);
        duePieces("one", one, START, 360, -9);
        due("none", new CamPieces().mirror(), 0);
        CamPieces all = twelve(349, 1, -99);
        due("twelve", all.mirror(), 360);
        dueAll("the first, the last", row(all.of(0, 1), all.of(0, 2), all.of(11, 1), all.of(11, 2), all.of(11, 3), all.of(11, 4)),
            349, 99, 1, -1, 359, 89);
        CamPieces closed = cam(STOP, 180, 9, START, 180, -9);
        closed.mirror();
        due("closed still", closed.told(8), 1);
    }

    private void mirroredTwice() {
        says("It is MIRRORED");
        CamPieces x = cam(START, 3, 5, STOP, 4, 6, DWELL, 5, 0);
        x.mirror();
        // From 0 on it is seen what was seen from its end, less the LIFT there.
        dueAt(x, 0, 1, 1, 0, 1);
        dueAt(x, 5, 1, 0, 0, 1);
        dueAt(x, 9, 0, 0, -6, 1);
        dueAt(x, 9, 1, 1, -10, 3);
        dueAt(x, 12, 0, 0, -11, 1);
        x.mirror();
        duePieces("twice: as it was", x, START, 3, 5, STOP, 4, 6, DWELL, 5, 0);
    }

    private void alike() {
        says("ALIKE: PIECES of the same KIND, LONG and RISE. How many PIECES are ALIKE to one (it, too)");
        due("it alone", cam(LINE, 9, 5).alike(0), 1);
        due("other KIND", cam(LINE, 9, 5, CUBIC, 9, 5).alike(0), 1);
        due("other LONG", cam(LINE, 9, 5, LINE, 8, 5).alike(1), 1);
        due("other RISE", cam(LINE, 9, 5, LINE, 9, -5).alike(1), 1);
        CamPieces all = twelve(1, 7, 7);
        dueAll("twelve", row(all.alike(0), all.alike(5), all.alike(11)), 12, 12, 12);
        all.put(11, 2, 6);
        dueAll("eleven, and one", row(all.alike(0), all.alike(11)), 11, 1);
    }

    private void alikeNone() {
        says("How many PIECES are ALIKE to one .. NONE");
        CamPieces x = cam(LINE, 9, 5, LINE, 9, 5);
        for (int piece : new int[] {-1, 2, 11, 12, LOW, HIGH}) due("piece " + piece, x.alike(piece), NONE);
        due("without pieces", new CamPieces().alike(0), NONE);
        x.drop();
        dueAll("a dropped one", row(x.alike(0), x.alike(1)), 1, NONE);
    }

    private void unlike() {
        says("How many unlike PIECES there are; the k-th (0 and on) as they come first: its number (k -1: how many)");
        CamPieces x = cam(LINE, 9, 5, LINE, 9, 5, CUBIC, 9, 5, LINE, 9, 5, CUBIC, 9, 5, LINE, 8, 5);
        dueAll("-1 to 3", row(x.unlike(-1), x.unlike(0), x.unlike(1), x.unlike(2), x.unlike(3)), 3, 0, 2, 5, NONE);
        CamPieces same = twelve(1, 7, 7), all = new CamPieces();
        dueAll("one of twelve", row(same.unlike(-1), same.unlike(0), same.unlike(1)), 1, 0, NONE);
        for (int k = 0; k < 12; k++) all.piece(LINE, 1, k + 1);
        dueAll("twelve", row(all.unlike(-1), all.unlike(0), all.unlike(11), all.unlike(12)), 12, 0, 11, NONE);
    }

    private void unlikeNone() {
        says("(k -1: how many). NONE");
        CamPieces x = cam(LINE, 9, 5, LINE, 9, 5);
        for (int k : new int[] {-2, 1, 2, LOW, HIGH}) due("k " + k, x.unlike(k), NONE);
        CamPieces none = new CamPieces();
        dueAll("without pieces", row(none.unlike(-1), none.unlike(0), none.unlike(-2)), 0, NONE, NONE);
    }

    private void steeper() {
        says("STEEPER: a PIECE is, whose RISE, without sign, by LONG is more");
        due("RISE", cam(LINE, 9, 5, LINE, 9, 6).steepestPiece(), 1);
        due("LONG", cam(LINE, 9, 5, LINE, 8, 5).steepestPiece(), 1);
        due("without sign", cam(LINE, 9, 5, LINE, 9, -6).steepestPiece(), 1);
        due("more RISE, but longer", cam(LINE, 9, 5, LINE, 11, 6).steepestPiece(), 0);
        due("hardly more", cam(LINE, 181, 98, LINE, 179, 97).steepestPiece(), 1);
        due("KIND is of no matter", cam(QUINTIC, 9, 6, LINE, 9, 5).steepestPiece(), 0);
        due("more than a dwell", cam(DWELL, 1, 0, LINE, 359, 1).steepestPiece(), 1);
        due("more than a dwell", cam(DWELL, 1, 0, LINE, 359, -1).steepestPiece(), 1);
        due("less than one that falls", cam(LINE, 9, -5, LINE, 9, 4).steepestPiece(), 0);
        due("less than one that falls, both do", cam(LINE, 9, -5, LINE, 9, -4).steepestPiece(), 0);
        due("no more than one that falls", cam(LINE, 9, -5, LINE, 9, 5, LINE, 9, -5).steepestPiece(), 0);
        due("more than one that falls", cam(LINE, 9, -5, LINE, 9, 6).steepestPiece(), 1);
    }

    private void steepestPieceFirst() {
        says("STEEPEST PIECE, of several the first. -5: there is none");
        due("none", new CamPieces().steepestPiece(), -5);
        due("one dwell", cam(DWELL, 9, 0).steepestPiece(), 0);
        due("dwells", cam(DWELL, 9, 0, DWELL, 1, 0).steepestPiece(), 0);
        due("as steep", cam(DWELL, 1, 0, LINE, 9, 3, LINE, 30, -10, LINE, 3, 1).steepestPiece(), 1);
        due("twelve", twelve(1, 7, 7).steepestPiece(), 0);
        due("twelve, the last", twelve(1, 7, -8).steepestPiece(), 11);
    }

    // ---- numbers of what is asked

    private void atNumbers() {
        says("Of an ANGLE and SIDE what 0 LIFT, 1 SLOPE, 2 BEND. NO: what, part, no such ANGLE, SIDE, none there");
        CamPieces x = cam(START, 10, 10);
        dueAt(x, 5, 0, 0, 5, 2);
        dueAt(x, 5, 0, 1, 1, 1);
        dueAt(x, 5, 0, 2, 1, 5);
        for (int wrong : new int[] {-1, 3, LOW, HIGH}) due("what " + wrong, x.at(5, 0, wrong, 0), NO);
        for (int wrong : new int[] {-1, 2, LOW, HIGH}) {
            due("part " + wrong, x.at(5, 0, 0, wrong), NO);
            due("side " + wrong, x.at(5, wrong, 0, 0), NO);
        }
        for (int wrong : new int[] {-1, 11, LOW, HIGH}) due("angle " + wrong, x.at(wrong, 0, 0, 0), NO);
        due("all wrong", x.at(-1, -1, -1, -1), NO);
    }

    private void jumpNumbers() {
        says("JUMP at a JOIN, of SLOPE (what 0), BEND (1). NO: join, what, part");
        CamPieces x = cam(START, 10, 10, LINE, 10, 5);
        dueJump(x, 1, 0, -3, 2);
        dueJump(x, 1, 1, -1, 5);
        for (int wrong : new int[] {-1, 0, 2, 12, LOW, HIGH}) due("join " + wrong, x.jump(wrong, 0, 1), NO);
        for (int wrong : new int[] {-1, 2, LOW, HIGH}) {
            due("what " + wrong, x.jump(1, wrong, 0), NO);
            due("part " + wrong, x.jump(1, 0, wrong), NO);
        }
    }

    private void joinNumbers() {
        says("What a JOIN is. NONE");
        CamPieces closed = twelve(349, 9, -99), open = twelve(348, 9, -99);
        dueAll("closed", row(closed.join(-1), closed.join(0), closed.join(1), closed.join(11), closed.join(12)), NONE, 0, 2, 0, NONE);
        dueAll("open", row(open.join(-1), open.join(0), open.join(1), open.join(11), open.join(12)), NONE, NONE, 2, 0, NONE);
        for (int join : FAR) due("join " + join, closed.join(join), NONE);
    }

    private void whatOfJoins() {
        says("JOINS (bits) that are CORNERS (what 0), ROUGH (1), SMOOTH (2). NONE");
        CamPieces x = cam(LINE, 9, 1, LINE, 9, 1, DWELL, 9, 0, CUBIC, 9, 1);
        dueAll("0 to 2", row(x.joins(0), x.joins(1), x.joins(2)), 4, 8, 2);
        for (int what : new int[] {-1, 3, LOW, HIGH}) {
            due("what " + what, x.joins(what), NONE);
            due("what " + what + ", without pieces", new CamPieces().joins(what), NONE);
        }
    }

    private void sightNumbers() {
        says("CURVE, PRESSURE, FORCE. NO: part, no such ANGLE, SIDE, none there");
        CamPieces x = cam(LINE, 10, 10);
        for (int wrong : new int[] {-1, 2, LOW, HIGH}) {
            dueAll("part " + wrong, row(x.curve(5, 0, wrong), x.pressure(5, 0, wrong), x.force(5, 0, wrong)), NO, NO, NO);
            dueAll("side " + wrong, row(x.curve(5, wrong, 0), x.pressure(5, wrong, 0), x.force(5, wrong, 0)), NO, NO, NO);
        }
        for (int wrong : new int[] {-1, 11, LOW, HIGH}) {
            dueAll("angle " + wrong, row(x.curve(wrong, 0, 0), x.pressure(wrong, 0, 0), x.force(wrong, 0, 0)), NO, NO, NO);
        }
        dueAll("0 and 10", row(x.curve(0, 1, 0), x.curve(10, 0, 0), x.force(0, 1, 0), x.force(10, 0, 0)), 100, 110, 10, 20);
    }

    private void whatOfCounts() {
        says("How many ANGLES are UNDERCUT (what 0), where it FLOATS (1) .. NONE; extreme: (what 0), least (1) .. NONE; -5");
        CamPieces x = cam(LINE, 9, 9), none = new CamPieces();
        for (int what : new int[] {-1, 2, LOW, HIGH}) {
            dueAll("what " + what, row(x.count(what), none.count(what)), NONE, NONE);
            dueAll("extreme, what " + what, row(x.extreme(what), none.extreme(what)), NONE, NONE);
        }
        dueAll("0 and 1", row(x.count(0), x.count(1), none.count(0), none.count(1)), 0, 0, 0, 0);
        dueAll("extreme, 0 and 1", row(x.extreme(0), x.extreme(1), none.extreme(0), none.extreme(1)), 9, 0, -5, -5);
    }

    private void sampleNumbers() {
        says("SAMPLE. NO: no such ANGLE");
        CamPieces x = cam(LINE, 360, 36);
        dueAll("0, 1, 359, 360", row(x.sample(0), x.sample(1), x.sample(359), x.sample(360)), 0, 10, 3590, 3600);
        for (int angle : new int[] {-1, 361, LOW, HIGH}) due("angle " + angle, x.sample(angle), NO);
        due("without pieces", new CamPieces().sample(0), NO);
    }

    // ---- lists

    private void listsHoldNothing() {
        says("LISTS 0 .. 3 hold nothing (at first). NOTHING (-11): there is none");
        CamPieces x = cam(LINE, 9, 9);
        for (int list = 0; list <= 3; list++) {
            due("set " + list, x.set(list, 0, 1), NOTHING);
            due("get " + list, x.get(list, 0), NO);
            due("lay " + list, x.lay(list, 0, 0, 1, 1), NOTHING);
            due("lay none " + list, x.lay(list, 0, 0, 1, 0), NOTHING);
            due("seen " + list, x.seen(list, 0, 1, 0), NOTHING);
        }
        for (int list : new int[] {-1, 4, LOW, HIGH}) {
            due("set " + list, x.set(list, 0, 1), NONE);
            due("get " + list, x.get(list, 0), NO);
            due("lay " + list, x.lay(list, 0, 0, 1, 1), NONE);
            due("seen " + list, x.seen(list, 0, 1, 0), NONE);
            due("list " + list, x.list(list, 5), NONE);
        }
    }

    private void listSizes() {
        says("A LIST becomes a row of n longs ..: 1. NONE: list; BAD: n above 30; BELOW");
        for (int list = 0; list <= 3; list++) {
            CamPieces x = new CamPieces();
            for (int n : new int[] {31, 1000000, HIGH}) due("size " + n, x.list(list, n), BAD);
            for (int n : new int[] {-1, -30, LOW}) due("size " + n, x.list(list, n), BELOW);
            due("it holds nothing still", x.set(list, 0, 1), NOTHING);
            for (int n : new int[] {0, 1, 29, 30, 0}) {
                due("size " + n, x.list(list, n), 1);
                due("its last place", x.set(list, n - 1, 7), n == 0 ? BEYOND : 1);
                due("no place behind", x.set(list, n, 7), BEYOND);
                for (int other = 0; other <= 3; other++) {
                    if (other != list) due("another holds nothing", x.set(other, 0, 1), NOTHING);
                }
            }
            x.list(list, 30);
            x.set(list, 29, 7);
            x.list(list, 31);
            x.list(list, -1);
            due("a wrong size changes nothing", x.get(list, 29), 7);
        }
    }

    private void listAllNought() {
        says("A LIST becomes a row of n longs, all 0");
        CamPieces x = new CamPieces();
        x.list(2, 30);
        for (int i = 0; i < 30; i++) x.set(2, i, i + 1);
        x.list(2, 3);
        dueAll("three", places(x, 2, 5), 0, 0, 0, NO, NO);
        x.set(2, 2, 8);
        x.list(2, 30);
        for (int i = 0; i < 30; i++) due("place " + i, x.get(2, i), 0);
    }

    private void setPlaces() {
        says("Place i of a LIST becomes v: 1. NONE; NOTHING; BEYOND (-13): no such place");
        CamPieces x = new CamPieces();
        x.list(0, 0);
        x.list(1, 1);
        x.list(3, 30);
        for (int i : new int[] {-1, 0, 1, LOW, HIGH}) due("size 0, place " + i, x.set(0, i, 5), BEYOND);
        for (int i : new int[] {-1, 1, LOW, HIGH}) due("size 1, place " + i, x.set(1, i, 5), BEYOND);
        for (int i : new int[] {-1, 30, 31, LOW, HIGH}) due("size 30, place " + i, x.set(3, i, 5), BEYOND);
        dueAll("those there are", row(x.set(1, 0, 5), x.set(3, 0, 6), x.set(3, 29, 7)), 1, 1, 1);
        dueAll("then", row(x.get(1, 0), x.get(3, 0), x.get(3, 28), x.get(3, 29)), 5, 6, 0, 7);
    }

    private void setNumbers() {
        says("a row of 0 .. 30 longs");
        CamPieces x = new CamPieces();
        x.list(0, 1);
        for (long v : new long[] {Long.MIN_VALUE, Long.MIN_VALUE + 1, -1, 0, 1, 1L << 32, Long.MAX_VALUE}) {
            due("set " + v, x.set(0, 0, v), 1);
            due("get", x.get(0, 0), v);
        }
    }

    private void getPlaces() {
        says("Place i of a LIST. NO: no such LIST, nothing there, no such place");
        CamPieces x = new CamPieces();
        x.list(0, 0);
        x.list(3, 30);
        x.set(3, 0, 6);
        x.set(3, 29, 7);
        dueAll("size 30", row(x.get(3, -1), x.get(3, 0), x.get(3, 29), x.get(3, 30), x.get(3, LOW), x.get(3, HIGH)),
            NO, 6, 7, NO, NO, NO);
        dueAll("size 0", row(x.get(0, -1), x.get(0, 0), x.get(0, 1)), NO, NO, NO);
        dueAll("nothing", row(x.get(1, -1), x.get(1, 0)), NO, NO);
        dueAll("no list", row(x.get(-1, 0), x.get(4, 0), x.get(LOW, 0), x.get(HIGH, 0), x.get(2, 29), x.get(4, -1)),
            NO, NO, NO, NO, NO, NO);
    }

    // ---- laid and seen

    private static CamPieces ramp(int size) {
        CamPieces x = cam(LINE, 100, 50);
        x.tell(5, 2);
        x.list(1, size);
        return x;
    }

    private void layNumbers() {
        says("by a step (1 .. 60), n of them (0 .. 30 ..). BAD: angle, step, n");
        CamPieces x = ramp(30);
        for (int step : new int[] {0, 61, -1, LOW, HIGH}) {
            due("step " + step, x.lay(1, 0, 0, step, 2), BAD);
            due("step " + step + ", none", x.lay(1, 0, 0, step, 0), BAD);
            due("step " + step + ", one", x.lay(1, 0, 0, step, 1), BAD);
        }
        for (int n : new int[] {-1, 31, LOW, HIGH}) due("n " + n, x.lay(1, 0, 0, 1, n), BAD);
        for (int angle : new int[] {-1, 101, LOW, HIGH}) due("angle " + angle, x.lay(1, 0, angle, 1, 1), BAD);
        dueAll("nothing was laid", row(x.get(1, 0), x.get(1, 1), x.get(1, 29)), 0, 0, 0);
        dueAll("step 60", row(x.lay(1, 0, 40, 60, 2), x.get(1, 0), x.get(1, 1), x.get(1, 2)), 2, 40, 100, 0);
        dueAll("step 1", row(x.lay(1, 0, 7, 1, 2), x.get(1, 0), x.get(1, 1)), 2, 7, 8);
        dueAll("n 30", row(x.lay(1, 0, 71, 1, 30), x.get(1, 0), x.get(1, 29)), 30, 71, 100);
    }

    private void layAngles() {
        says("one of these ANGLES isn't there");
        CamPieces x = ramp(30);
        dueAll("up to TOTAL", row(x.lay(1, 0, 98, 1, 3), x.lay(1, 0, 98, 1, 4)), 3, BAD);
        dueAll("by 60", row(x.lay(1, 0, 40, 60, 2), x.lay(1, 0, 41, 60, 2), x.lay(1, 0, 0, 60, 3)), 2, BAD, BAD);
        dueAll("TOTAL itself", row(x.lay(1, 0, 100, 60, 1), x.lay(1, 0, 100, 1, 2)), 1, BAD);
        dueAll("those of BAD were not laid", row(x.get(1, 0), x.get(1, 1)), 100, 100);
        due("of none", layOfNone(1), BAD);
        CamPieces y = cam(LINE, 360, 36);
        y.list(1, 30);
        dueAll("up to 360", row(y.lay(1, 0, 12, 12, 30), y.lay(1, 0, 13, 12, 30), y.lay(1, 0, 0, 60, 7), y.lay(1, 0, 1, 60, 7)),
            30, BAD, 7, BAD);
    }

    private static int layOfNone(int n) {
        CamPieces x = new CamPieces();
        x.list(1, 5);
        return x.lay(1, 0, 0, 1, n);
    }

    private void layNone() {
        says("(0 .. 30; the first ANGLE must be there with n 0, too); with n 0 all were, wherever i is");
        CamPieces x = ramp(3);
        for (int i : new int[] {0, 2, 3, 4, 30, -1, LOW, HIGH}) {
            due("place " + i, x.lay(1, i, 0, 1, 0), 0);
            due("place " + i + ", the last angle", x.lay(1, i, 100, 60, 0), 0);
            due("place " + i + ", behind it", x.lay(1, i, 101, 1, 0), BAD);
            due("place " + i + ", below 0", x.lay(1, i, -1, 1, 0), BAD);
        }
        due("without pieces", layOfNone(0), BAD);
        dueAll("nothing was laid", places(x, 1, 3), 0, 0, 0);
        due("into a row of none", ramp(0).lay(1, 5, 7, 1, 0), 0);
    }

    private void layBeyond() {
        says("BEYOND: not all were (those that had a place are there all the same)");
        CamPieces x = ramp(4);
        dueAll("all", row(x.lay(1, 0, 10, 1, 4)), 4);
        due("one too many", x.lay(1, 0, 20, 1, 5), BEYOND);
        dueAll("four of five", places(x, 1, 5), 20, 21, 22, 23, NO);
        due("the last place", x.lay(1, 3, 30, 1, 1), 1);
        due("one behind", x.lay(1, 3, 40, 2, 2), BEYOND);
        dueAll("one of two", places(x, 1, 4), 20, 21, 22, 40);
        for (int i : new int[] {4, 5, 30, HIGH - 1, HIGH}) due("from " + i + " on", x.lay(1, i, 50, 1, 2), BEYOND);
        dueAll("none of them", places(x, 1, 4), 20, 21, 22, 40);
        due("BAD ahead of it", x.lay(1, 3, 100, 1, 2), BAD);
        dueAll("BAD lays none", places(x, 1, 4), 20, 21, 22, 40);
        due("thirty into four", x.lay(1, 1, 60, 1, 30), BEYOND);
        dueAll("three of thirty", places(x, 1, 4), 20, 60, 61, 62);
        for (int other : new int[] {0, 2, 3}) due("other lists hold nothing", x.set(other, 0, 0), NOTHING);
    }

    private void layBelow() {
        says("none, if i is below 0");
        CamPieces x = ramp(4);
        for (int i : new int[] {-1, -2, -29, LOW, LOW + 1}) {
            due("from " + i + " on", x.lay(1, i, 50, 1, 30), BEYOND);
            due("one from " + i + " on", x.lay(1, i, 50, 1, 1), BEYOND);
        }
        dueAll("none of them", places(x, 1, 4), 0, 0, 0, 0);
    }

    private void layThirty() {
        says("a row of 0 .. 30 longs; are laid into a LIST from i on: how many");
        CamPieces x = ramp(30);
        dueAll("all thirty", row(x.lay(1, 0, 0, 3, 30), x.get(1, 0), x.get(1, 29)), 30, 0, 87);
        dueAll("29 of thirty", row(x.lay(1, 1, 1, 3, 30), x.get(1, 0), x.get(1, 1), x.get(1, 29)), BEYOND, 0, 1, 85);
        dueAll("the last alone", row(x.lay(1, 29, 9, 3, 1), x.get(1, 29), x.get(1, 28)), 1, 9, 82);
    }

    private void layIntoNone() {
        says("LISTS .. a row of 0 .. 30 longs (of 0)");
        CamPieces x = ramp(0);
        dueAll("one, none", row(x.lay(1, 0, 0, 1, 1), x.lay(1, 0, 0, 1, 0), x.get(1, 0)), BEYOND, 0, NO);
    }

    private void laySamples() {
        says("SAMPLES of ANGLES from one on, by a step");
        CamPieces x = cam(LINE, 4, -1, START, 4, 2);
        x.tell(5, 2);
        x.list(0, 9);
        due("all", x.lay(0, 0, 0, 1, 9), 9);
        // -1/2, -1, -3/2, -2, then 1/4 each, squared: -7/4, -1, 1/4, 2.
        dueAll("SAMPLES", places(x, 0, 9), 0, 0, -1, -1, -2, -2, -1, 0, 2);
        for (int angle = 0; angle <= 8; angle++) due("as sample " + angle, x.get(0, angle), x.sample(angle));
    }

    private void seenNumbers() {
        says("NONE: list, piece; NOTHING; BAD: n (1 .. 30, no more than LONG + 1)");
        CamPieces x = cam(LINE, 100, 50, LINE, 28, 1, LINE, 29, 1);
        x.list(0, 30);
        x.lay(0, 0, 0, 1, 30);
        dueAll("1 and 30", row(x.seen(0, 0, 1, 0), x.seen(0, 0, 30, 0)), 63, 2);
        for (int n : new int[] {0, 31, -1, LOW, HIGH}) due("n " + n, x.seen(0, 0, n, 0), BAD);
        dueAll("LONG 28", row(x.seen(0, 0, 29, 1), x.seen(0, 0, 30, 1), x.seen(0, 0, 31, 1)), 0, BAD, BAD);
        dueAll("LONG 29", row(x.seen(0, 0, 29, 2), x.seen(0, 0, 30, 2), x.seen(0, 0, 31, 2)), 0, 0, BAD);
        for (int piece : new int[] {-1, 3, 11, 12, LOW, HIGH}) due("piece " + piece, x.seen(0, 0, 1, piece), NONE);
        for (int list : new int[] {-1, 4, LOW, HIGH}) due("list " + list, x.seen(list, 0, 1, 0), NONE);
        due("nothing", x.seen(3, 0, 1, 0), NOTHING);
        CamPieces none = new CamPieces();
        none.list(0, 5);
        due("without pieces", none.seen(0, 0, 1, 0), NONE);
        due("without pieces, without the list", none.seen(1, 0, 1, 0), NONE);
    }

    private void seenBeyond() {
        says("BEYOND (a place below 0, too)");
        CamPieces x = cam(LINE, 100, 50);
        x.list(0, 4);
        x.list(1, 0);
        x.list(2, 30);
        dueAll("4 of 4", row(x.seen(0, 0, 4, 0), x.seen(0, 1, 4, 0), x.seen(0, 0, 5, 0)), 1, BEYOND, BEYOND);
        dueAll("1 of 4", row(x.seen(0, 3, 1, 0), x.seen(0, 4, 1, 0)), 63, BEYOND);
        dueAll("of none", row(x.seen(1, 0, 1, 0), x.seen(1, -1, 1, 0), x.seen(1, 1, 1, 0)), BEYOND, BEYOND, BEYOND);
        dueAll("of 30", row(x.seen(2, 0, 30, 0), x.seen(2, 1, 30, 0), x.seen(2, 29, 1, 0), x.seen(2, 30, 1, 0)),
            1, BEYOND, 63, BEYOND);
        for (int i : new int[] {-1, -4, LOW, HIGH - 29, HIGH}) {
            due("place " + i, x.seen(0, i, 1, 0), BEYOND);
            due("place " + i, x.seen(2, i, 30, 0), BEYOND);
        }
    }

    private void seenLongAnd1() {
        says("n of them (1 .. 30), of ANGLES 0, 1, .. of a PIECE (n no more than LONG + 1)");
        CamPieces x = cam(DWELL, 3, 0, LINE, 1, 5);
        x.list(0, 5);
        x.lay(0, 0, 3, 1, 2);
        dueAll("LONG 1", row(x.seen(0, 0, 1, 1), x.seen(0, 0, 2, 1), x.seen(0, 0, 3, 1)), 63, 62, BAD);
        CamPieces y = cam(START, 29, 9);
        y.list(0, 30);
        y.lay(0, 0, 0, 1, 30);
        due("LONG 29, all of it", y.seen(0, 0, 30, 0), 1 << START);
    }

    private void seenEachOfThem() {
        says("KINDS (bits) by which .. all of these would be so");
        CamPieces x = cam(LINE, 40, 7);
        x.list(1, 30);
        x.lay(1, 0, 0, 1, 30);
        for (int i = 0; i < 30; i++) {
            long was = x.get(1, i);
            x.set(1, i, was + 1);
            dueAll("off at " + i, row(x.seen(1, 0, 30, 0), x.seen(1, 0, i + 1, 0)), 0, 0);
            x.set(1, i, was);
            due("as it was at " + i, x.seen(1, 0, 30, 0), 1 << LINE);
        }
    }

    private void seenDwell() {
        says("of a DWELL all KINDS are alike");
        CamPieces x = cam(LINE, 9, 5, DWELL, 9, 0);
        x.list(0, 10);
        x.lay(0, 0, 9, 1, 10);
        dueAll("all", row(x.seen(0, 0, 10, 1), x.seen(0, 3, 1, 1)), 63, 63);
        x.set(0, 9, 501);
        dueAll("one off", row(x.seen(0, 0, 10, 1), x.seen(0, 0, 9, 1)), 0, 63);
    }

    private void seenAsDwell() {
        says("(with its RISE; DWELL: were it 0)");
        CamPieces x = cam(LINE, 9, 5, CUBIC, 9, 7);
        x.list(0, 10);
        for (int i = 0; i < 10; i++) x.set(0, i, 500);
        dueAll("level", row(x.seen(0, 0, 10, 1), x.seen(0, 0, 1, 1), x.seen(0, 0, 10, 0)), 1, 63, 0);
        x.tell(5, 1);
        for (int i = 0; i < 10; i++) x.set(0, i, 5);
        // By GRID 1 the first of START, CUBIC and QUINTIC are 5, too; LINE is 7/9 higher at 1, STOP 1.47.
        due("hardly begun", x.seen(0, 0, 2, 1), 1 << DWELL | 1 << START | 1 << CUBIC | 1 << QUINTIC);
    }

    private void seenWithRisesAhead() {
        says("SAMPLES are those of LIFT, with the RISES ahead");
        CamPieces x = cam(LINE, 9, -5, LINE, 9, 7, LINE, 9, 7);
        x.list(0, 10);
        x.lay(0, 0, 9, 1, 10);
        dueAll("the second", row(x.seen(0, 0, 10, 0), x.seen(0, 0, 10, 1), x.seen(0, 0, 10, 2)), 0, 2, 0);
        x.lay(0, 0, 18, 1, 10);
        dueAll("the third", row(x.seen(0, 0, 10, 0), x.seen(0, 0, 10, 1), x.seen(0, 0, 10, 2)), 0, 0, 2);
    }

    private void seenAll() {
        says("KINDS (bits) by which, were the PIECE of that .., all of these would be so");
        for (int kind = 1; kind <= 5; kind++) {
            CamPieces x = cam(LINE, 5, 3, kind, 12, -30, DWELL, 9, 0);
            x.list(3, 20);
            x.lay(3, 4, 5, 1, 13);
            due("kind " + kind, x.seen(3, 4, 13, 1), 1 << kind);
            due("the first alone", x.seen(3, 4, 1, 1), 63);
            due("from another place on", x.seen(3, 5, 12, 1), 0);
            x.put(1, 0, kind % 5 + 1);
            due("though it is another now", x.seen(3, 4, 13, 1), 1 << kind);
            x.set(3, 16, x.get(3, 16) - 1);
            due("the last is off", x.seen(3, 4, 13, 1), 0);
            due("but those ahead", x.seen(3, 4, 12, 1), 1 << kind);
            x.set(3, 4, x.get(3, 4) + 1);
            due("the first is off", x.seen(3, 4, 12, 1), 0);
            x.set(3, 4, Long.MIN_VALUE);
            due("far off", x.seen(3, 4, 12, 1), 0);
        }
    }

    private void seenGrid() {
        says("SAMPLE at an ANGLE: LIFT times GRID (as GRID is when they are seen)");
        CamPieces x = cam(LINE, 9, 9);
        x.list(0, 10);
        x.lay(0, 0, 0, 1, 10);
        x.tell(5, 99);
        due("another GRID", x.seen(0, 0, 10, 0), 0);
        x.tell(5, 100);
        due("the same again", x.seen(0, 0, 10, 0), 2);
    }

    // ---- the image

    private void imageAndUndo() {
        says("THE IMAGE is taken: how many PIECES. All is as THE IMAGE: how many PIECES");
        CamPieces x = cam(START, 9, 5, STOP, 9, 7);
        int[] told = {999, 20, 0, 9999, 30, 1000}, others = {1, 1, 99, 0, 0, 1};
        for (int what = 0; what < 6; what++) x.tell(what, told[what]);
        due("image", x.image(), 2);
        for (int what = 0; what < 6; what++) x.tell(what, others[what]);
        x.mirror();
        x.put(0, 1, 300);
        x.drop();
        due("undo", x.undo(), 2);
        duePieces("pieces", x, START, 9, 5, STOP, 9, 7);
        for (int what = 0; what < 6; what++) due("told " + what, x.told(what), told[what]);
        dueAll("total, closed", row(x.told(7), x.told(8)), 18, 0);
        x.drop();
        x.drop();
        dueAll("as often as one likes", row(x.undo(), x.undo(), x.told(6)), 2, 2, 2);
        duePieces("pieces", x, START, 9, 5, STOP, 9, 7);
    }

    private void noImage() {
        says("STATE: there is none");
        CamPieces x = cam(LINE, 9, 9);
        x.tell(0, 7);
        due("undo", x.undo(), STATE);
        duePieces("nothing changed", x, LINE, 9, 9);
        due("nothing changed", x.told(0), 7);
        due("still", x.undo(), STATE);
    }

    private void imageOfNone() {
        says("All is as THE IMAGE (one without PIECES)");
        CamPieces x = new CamPieces();
        due("image", x.image(), 0);
        x.piece(LINE, 9, 9);
        x.tell(5, 7);
        dueAll("undo", row(x.undo(), x.told(6), x.told(7), x.told(5), x.of(0, 0)), 0, 0, 0, 100, NO_PART);
        due("anew", x.piece(LINE, 360, 9), 0);
    }

    private void imageOfTwelve() {
        says("All is as THE IMAGE (one of twelve PIECES)");
        CamPieces x = twelve(349, 9, -99);
        long[] parts = parts(x);
        due("image", x.image(), 12);
        for (int k = 0; k < 12; k++) x.drop();
        x.piece(DWELL, 7, 0);
        dueAll("undo", row(x.undo(), x.told(7), x.told(8)), 12, 360, 1);
        dueAll("pieces", parts(x), parts);
        due("a 13th", x.piece(LINE, 1, 1), FULL);
    }

    private void imageTakenAgain() {
        says("THE IMAGE is taken");
        CamPieces x = cam(LINE, 9, 9);
        x.image();
        x.piece(LINE, 8, 8);
        due("again", x.image(), 2);
        x.mirror();
        due("the later one", x.undo(), 2);
        duePieces("pieces", x, LINE, 9, 9, LINE, 8, 8);
        x.put(0, 2, 7);
        x.put(1, 0, CUBIC);
        x.undo();
        duePieces("what was changed behind undo isn't in it", x, LINE, 9, 9, LINE, 8, 8);
    }

    private void imageHoldsNoMore() {
        says("THE IMAGE: PIECES, RADIUS, MASS, STIFF, PRELOAD, SPEED, GRID");
        CamPieces x = cam(LINE, 9, 9);
        x.list(0, 2);
        x.set(0, 1, 5);
        feed(x, "dwell 7");
        x.image();
        x.set(0, 1, 6);
        x.list(1, 1);
        x.feed('7');
        x.undo();
        dueAll("lists stay", row(x.get(0, 1), x.get(1, 0), x.get(2, 0)), 6, 0, NO);
        due("the tape stays", x.told(9), 8);
        dueAll("as it was fed", row(x.cam(), x.of(0, 1)), 1, 77);
        feed(x, "x");
        x.cam();
        x.undo();
        due("cause stays", x.cause(), 1);
    }

    // ---- how many calls

    private void calls512() {
        says("An object is used for at most 512 calls after it has been made");
        CamPieces x = new CamPieces();
        due("call 1", x.image(), 0);
        for (int call = 2; call <= 510; call += 2) {
            due("call " + call, x.piece(QUINTIC, 360, 99), 0);
            due("call " + (call + 1), x.drop(), 0);
        }
        due("call 512", x.undo(), 0);
        CamPieces y = cam(QUINTIC, 180, 99, QUINTIC, 180, -99);
        for (int call = 3; call <= 512; call++) due("call " + call, y.sample(180), 9900);
    }
}
