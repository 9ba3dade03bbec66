/** Each sentence of 'Terms' about what there is and where it ends: the last that is still so, the first that is not. */
public final class EdgeTermsTests extends Edge {
    private EdgeTermsTests() {
        super("edges of the terms");
    }

    public static void main(String[] args) {
        EdgeTermsTests t = new EdgeTermsTests();
        t.twelvePieces(); t.kinds(); t.longs(); t.rises(); t.totals();
        t.sharesAtTheEnds(); t.sharesInTheMiddle(); t.liftsOfAllAhead();
        t.angles(); t.noAngles(); t.isClosed(); t.sidesOfAJoin(); t.sidesWithin(); t.endsOfAClosedCam(); t.endsOfAnOpenCam();
        t.liftFromBothSides(); t.whereJoinsAre(); t.joinNought(); t.jumpsAreSide1LessSide0(); t.cornersRoughSmooth();
        t.firstSettings(); t.leastAndMostSettings(); t.curveIs(); t.undercutIs(); t.undercutAtEnds();
        t.pressureIs(); t.pressureIsMissing(); t.forceIs(); t.floatsIs(); t.floatsAtEnds();
        t.sampleToTheNearest(); t.sampleByTheGrid(); t.errorSteps(); t.errorToTotal(); t.errorIsGreatest();
        t.lowestTerms(); t.belowNoughtIsAbove();
        t.end();
    }

    // ---- pieces

    private void twelvePieces() {
        says("PIECES, 12 at most, from 0 on, one behind the other");
        CamPieces x = new CamPieces();
        due("no piece 0", x.of(0, 0), NO_PART);
        for (int k = 0; k < 12; k++) {
            due("piece " + k, x.piece(LINE, 1 + k, 1), k);
            due("told behind it", x.told(6), k + 1);
        }
        due("a 13th", x.piece(LINE, 1, 1), FULL);
        due("twelve still", x.told(6), 12);
        due("piece 11", x.of(11, 1), 12);
        due("no piece 12", x.of(12, 1), NO_PART);
        due("no piece -1", x.of(-1, 1), NO_PART);
        due("piece 11 is behind all others", x.of(11, 3), 66);
        x.drop();
        due("there is room again", x.piece(LINE, 1, 1), 11);
        due("for one", x.piece(LINE, 1, 1), FULL);
    }

    private void kinds() {
        says("DWELL (KIND 0) 0; LINE (1) u; START (2) u u; STOP (3) 2 u - u u; CUBIC (4) ..; QUINTIC (5)");
        for (int kind = 0; kind <= 5; kind++) due("kind " + kind, cam(kind, 5, kind == 0 ? 0 : 5).of(0, 0), kind);
        for (int kind : new int[] {-1, 6, LOW, HIGH}) {
            due("no kind " + kind, new CamPieces().piece(kind, 5, 5), NONE);
            due("no kind " + kind + ", rise 0", new CamPieces().piece(kind, 5, 0), NONE);
            due("none becomes " + kind, cam(LINE, 5, 5).put(0, 0, kind), CANNOT_PUT);
        }
    }

    private void longs() {
        says("LONG (1 .. 360 angles)");
        for (int length : new int[] {1, 360}) {
            due("long " + length, new CamPieces().piece(LINE, length, 5), 0);
            due("dwell " + length, new CamPieces().piece(DWELL, length, 0), 0);
            due("becomes " + length, cam(LINE, 5, 5).put(0, 1, length), 5);
        }
        for (int length : new int[] {0, 361, -1, LOW, HIGH}) {
            due("long " + length, new CamPieces().piece(LINE, length, 5), BAD);
            due("dwell " + length, new CamPieces().piece(DWELL, length, 0), BAD);
            due("becomes " + length, cam(LINE, 5, 5).put(0, 1, length), CANNOT_PUT);
        }
    }

    private void rises() {
        says("RISE (-99 .. 99; of a DWELL 0, of the others not 0)");
        for (int kind = 1; kind <= 5; kind++) {
            for (int rise : new int[] {-99, -1, 1, 99}) {
                due("kind " + kind + ", rise " + rise, new CamPieces().piece(kind, 5, rise), 0);
                due("becomes " + rise, cam(kind, 5, 7).put(0, 2, rise), 7);
            }
            for (int rise : new int[] {-100, 0, 100, LOW, HIGH}) {
                due("kind " + kind + ", rise " + rise, new CamPieces().piece(kind, 5, rise), BAD);
                due("becomes " + rise, cam(kind, 5, 7).put(0, 2, rise), CANNOT_PUT);
            }
            due("with a rise none becomes a dwell", cam(kind, 5, 7).put(0, 0, DWELL), CANNOT_PUT);
            due("a dwell becomes none, its rise is 0", cam(DWELL, 5, 0).put(0, 0, kind), CANNOT_PUT);
        }
        due("dwell", new CamPieces().piece(DWELL, 5, 0), 0);
        due("its rise stays", cam(DWELL, 5, 0).put(0, 2, 0), 0);
        for (int rise : new int[] {-100, -99, -1, 1, 99, 100}) {
            due("dwell " + rise, new CamPieces().piece(DWELL, 5, rise), BAD);
            due("dwell becomes " + rise, cam(DWELL, 5, 0).put(0, 2, rise), CANNOT_PUT);
        }
    }

    private void totals() {
        says("TOTAL: all LONG, 360 at most");
        CamPieces x = cam(LINE, 200, 5, DWELL, 159, 0);
        due("359", x.told(7), 359);
        due("361", x.piece(LINE, 2, 5), STATE);
        due("361 by put", x.put(0, 1, 202), CANNOT_PUT);
        due("360 by put", x.put(0, 1, 201), 200);
        due("360 and 1", x.piece(LINE, 1, 5), STATE);
        due("360", x.told(7), 360);
        due("one becomes shorter by as much", x.put(1, 1, 158), 159);
        due("359 and 1", x.piece(LINE, 1, 5), 2);
        due("at 360 one may become what it is", x.put(1, 1, 158), 158);
        due("no longer", x.put(1, 1, 159), CANNOT_PUT);
        due("far no longer", x.put(1, 1, 360), CANNOT_PUT);
        x = twelve(349, 1, 1);
        due("twelve", x.told(7), 360);
        due("twelve, 361", x.put(0, 1, 2), CANNOT_PUT);
        due("none", new CamPieces().told(7), 0);
    }

    // ---- shares

    private void sharesAtTheEnds() {
        says("Of a PIECE at u (how far of it, 0 to 1) the share p");
        // LONG 6, RISE 12: 2 up an angle, so that SLOPE is 2 p' and BEND p'' by 3.
        long[] slopeAt0 = {0, 2, 0, 4, 0, 0}, slopeAt1 = {0, 2, 4, 0, 0, 0};
        long[] bendAt0 = {0, 0, 2, -2, 6, 0}, bendAt1 = {0, 0, 2, -2, -6, 0};
        for (int kind = 0; kind <= 5; kind++) {
            CamPieces x = cam(LINE, 3, -5, kind, 6, kind == 0 ? 0 : 12, DWELL, 4, 0);
            dueAt(x, 3, 1, 0, -5, 1);
            dueAt(x, 3, 1, 1, slopeAt0[kind], 1);
            dueThirds(x, 3, 1, bendAt0[kind]);
            dueAt(x, 9, 0, 0, kind == 0 ? -5 : 7, 1);
            dueAt(x, 9, 0, 1, slopeAt1[kind], 1);
            dueThirds(x, 9, 0, bendAt1[kind]);
        }
    }

    private void dueThirds(CamPieces x, int angle, int side, long thirds) {
        boolean isWhole = thirds % 3 == 0;
        dueAt(x, angle, side, 2, isWhole ? thirds / 3 : thirds, isWhole ? 1 : 3);
    }

    private void sharesInTheMiddle() {
        says("LIFT at an angle of a PIECE: .. p times RISE. SLOPE: .. first derivative, BEND: the second one");
        // LONG 6, RISE 12, at 3: p is 0, 1/2, 1/4, 3/4, 1/2, 1/2.
        long[][] middle = {{0, 0, 1, 0, 1}, {6, 2, 1, 0, 1}, {3, 2, 1, 2, 3}, {9, 2, 1, -2, 3}, {6, 3, 1, 0, 1},
            {6, 15, 4, 0, 1}};
        for (int kind = 0; kind <= 5; kind++) {
            CamPieces x = cam(kind, 6, kind == 0 ? 0 : 12), down = cam(kind, 6, kind == 0 ? 0 : -12);
            long[] m = middle[kind];
            for (int side = 0; side <= 1; side++) {
                dueAt(x, 3, side, 0, m[0], 1);
                dueAt(x, 3, side, 1, m[1], m[2]);
                dueAt(x, 3, side, 2, m[3], m[4]);
                dueAt(down, 3, side, 0, -m[0], 1);
                dueAt(down, 3, side, 1, -m[1], m[2]);
                dueAt(down, 3, side, 2, -m[3], m[4]);
            }
        }
    }

    private void liftsOfAllAhead() {
        says("RISES of all PIECES ahead, and p times RISE");
        CamPieces x = twelve(1, -99, -99);
        for (int k = 0; k < 12; k++) {
            due("lift where piece " + k + " begins", x.of(k, 4), -99 * k);
            dueAt(x, k, 1, 0, -99 * k, 1);
        }
        dueAt(x, 12, 0, 0, -1188, 1);
        dueAt(twelve(349, 99, 99), 360, 0, 0, 1188, 1);
    }

    // ---- angles and sides

    private void angles() {
        says("ANGLES 0 .. TOTAL");
        for (int total : new int[] {1, 7, 359, 360}) {
            CamPieces x = cam(CUBIC, total, 5);
            x.list(0, 1);
            due("sample 0 of " + total, x.sample(0), 0);
            due("sample " + total, x.sample(total), 500);
            due("laid from " + total, x.lay(0, 0, total, 1, 1), 1);
            dueAt(x, 0, 1, 0, 0, 1);
            dueAt(x, total, 0, 0, 5, 1);
            for (int angle : new int[] {-1, total + 1, LOW, HIGH}) {
                due("sample " + angle + " of " + total, x.sample(angle), NO);
                due("lay " + angle + " of " + total, x.lay(0, 0, angle, 1, 1), BAD);
                for (int side = 0; side <= 1; side++) dueNoSight(x, angle, side);
            }
        }
        CamPieces x = cam(LINE, 180, 5, LINE, 180, -5);
        for (int angle : new int[] {-1, 361}) {
            for (int side = 0; side <= 1; side++) dueNoSight(x, angle, side);
        }
    }

    private void dueNoSight(CamPieces x, int angle, int side) {
        String where = "(" + angle + ", " + side + ")";
        for (int part = 0; part <= 1; part++) {
            for (int what = 0; what <= 2; what++) due("at" + where, x.at(angle, side, what, part), NO);
            due("curve" + where, x.curve(angle, side, part), NO);
            due("pressure" + where, x.pressure(angle, side, part), NO);
            due("force" + where, x.force(angle, side, part), NO);
        }
    }

    private void noAngles() {
        says("(without PIECES there is none)");
        CamPieces x = new CamPieces();
        x.list(0, 3);
        for (int angle : new int[] {0, 1, 360}) {
            due("sample " + angle, x.sample(angle), NO);
            due("lay " + angle, x.lay(0, 0, angle, 1, 1), BAD);
            for (int side = 0; side <= 1; side++) dueNoSight(x, angle, side);
        }
        x = cam(LINE, 5, 5);
        x.drop();
        due("all dropped", x.sample(0), NO);
        for (int side = 0; side <= 1; side++) dueNoSight(x, 0, side);
    }

    private void isClosed() {
        says("It is CLOSED, if TOTAL is 360 and all RISES together are 0");
        dueClosed("both", cam(LINE, 180, 9, LINE, 180, -9), 1);
        dueClosed("TOTAL 359", cam(LINE, 180, 9, LINE, 179, -9), 0);
        dueClosed("RISES 1", cam(LINE, 180, 9, LINE, 180, -8), 0);
        dueClosed("RISES -1", cam(LINE, 180, 9, LINE, 180, -10), 0);
        dueClosed("a dwell of 360", cam(DWELL, 360, 0), 1);
        dueClosed("a dwell of 359", cam(DWELL, 359, 0), 0);
        dueClosed("none: RISES are 0, but TOTAL is, too", new CamPieces(), 0);
        dueClosed("twelve", twelve(349, 9, -99), 1);
        dueClosed("twelve, 359", twelve(348, 9, -99), 0);
        CamPieces x = cam(LINE, 180, 9, LINE, 180, -9);
        x.put(1, 1, 179);
        due("it is no more", x.told(8), 0);
        x.piece(DWELL, 1, 0);
        due("and is again", x.told(8), 1);
        x.drop();
        due("without the last it is not", x.told(8), 0);
    }

    private void dueClosed(String call, CamPieces x, int want) {
        due(call, x.told(8), want);
        due(call + ": join 0", x.join(0) == NONE ? 0 : 1, want);
        due(call + ": side 0 of angle 0", x.at(0, 0, 0, 0) == NO ? 0 : 1, want);
        due(call + ": side 1 of the last", x.at(x.told(7), 1, 0, 0) == NO ? 0 : 1, want);
    }

    private void sidesOfAJoin() {
        says("Of an ANGLE SIDE 0 is the PIECE that ends there .., SIDE 1 the one that begins there");
        CamPieces x = cam(LINE, 10, 10, LINE, 1, 2, LINE, 1, -3, START, 10, 50);
        dueAt(x, 10, 0, 1, 1, 1);
        dueAt(x, 10, 1, 1, 2, 1);
        dueAt(x, 11, 0, 1, 2, 1);
        dueAt(x, 11, 1, 1, -3, 1);
        dueAt(x, 12, 0, 1, -3, 1);
        dueAt(x, 12, 1, 1, 0, 1);
        dueAt(x, 12, 0, 2, 0, 1);
        dueAt(x, 12, 1, 2, 1, 1);
        dueAt(x, 22, 0, 1, 10, 1);
        for (int side : new int[] {-1, 2, LOW, HIGH}) dueNoSight(x, 10, side);
    }

    private void sidesWithin() {
        says("SIDE 0 is the PIECE .. that it lies in, SIDE 1 the one .. that it lies in");
        CamPieces x = cam(LINE, 10, 10, LINE, 10, 20);
        for (int side = 0; side <= 1; side++) {
            dueAt(x, 1, side, 1, 1, 1);
            dueAt(x, 9, side, 1, 1, 1);
            dueAt(x, 11, side, 1, 2, 1);
            dueAt(x, 19, side, 1, 2, 1);
        }
        for (int side : new int[] {-1, 2, LOW, HIGH}) dueNoSight(x, 9, side);
    }

    private void endsOfAClosedCam() {
        says("SIDE 0 of ANGLE 0 and SIDE 1 of ANGLE TOTAL are, if it is CLOSED, those of the last PIECE .. and of the first");
        CamPieces x = cam(STOP, 120, 60, LINE, 120, -30, START, 120, -30);
        x.tell(0, 50);
        x.tell(3, 7);
        for (int angle : new int[] {0, 360}) {
            // The last at its end: SLOPE -1/2, BEND -1/240; the first at its beginning: 1, -1/120.
            dueAt(x, angle, 0, 0, 0, 1);
            dueAt(x, angle, 0, 1, -1, 2);
            dueAt(x, angle, 0, 2, -1, 240);
            dueAt(x, angle, 1, 0, 0, 1);
            dueAt(x, angle, 1, 1, 1, 1);
            dueAt(x, angle, 1, 2, -1, 120);
            // 3249 by 240 is 13 and 43/80, by 120 27 and 3/40.
            dueFraction("curve 0", x.curve(angle, 0, 0), x.curve(angle, 0, 1), 2917, 80);
            dueFraction("curve 1", x.curve(angle, 1, 0), x.curve(angle, 1, 1), 917, 40);
            dueFraction("pressure 0", x.pressure(angle, 0, 0), x.pressure(angle, 0, 1), -57, 100);
            dueFraction("pressure 1", x.pressure(angle, 1, 0), x.pressure(angle, 1, 1), 57, 50);
            dueFraction("force 0", x.force(angle, 0, 0), x.force(angle, 0, 1), -523, 80);
            dueFraction("force 1", x.force(angle, 1, 0), x.force(angle, 1, 1), -803, 40);
        }
        CamPieces twelve = twelve(349, 9, -99);
        dueAt(twelve, 0, 0, 1, -99, 349);
        dueAt(twelve, 360, 1, 1, 9, 1);
        CamPieces one = cam(DWELL, 360, 0);
        for (int angle : new int[] {0, 360}) {
            for (int side = 0; side <= 1; side++) dueAt(one, angle, side, 0, 0, 1);
        }
    }

    private void endsOfAnOpenCam() {
        says("SIDE 0 of ANGLE 0 and SIDE 1 of ANGLE TOTAL .. else there are none");
        CamPieces[] open = {cam(LINE, 180, 9, LINE, 179, -9), cam(LINE, 180, 9, LINE, 180, -8), cam(LINE, 1, 1),
            twelve(348, 9, -99), cam(DWELL, 359, 0)};
        for (CamPieces x : open) {
            int total = x.told(7);
            dueNoSight(x, 0, 0);
            dueNoSight(x, total, 1);
            due("side 1 of 0", x.at(0, 1, 0, 0), 0);
            due("side 0 of the last", x.at(total, 0, 0, 1), 1);
            due("curve, side 1 of 0", x.curve(0, 1, 1) == NO ? 0 : 1, 1);
            due("pressure, side 1 of 0", x.pressure(0, 1, 1) == NO ? 0 : 1, 1);
            due("force, side 0 of the last", x.force(total, 0, 1) == NO ? 0 : 1, 1);
        }
    }

    private void liftFromBothSides() {
        says("LIFT is the same from both");
        CamPieces x = cam(LINE, 20, 7, START, 30, -9, STOP, 40, 11, DWELL, 10, 0, CUBIC, 100, -13, QUINTIC, 160, 4);
        for (int angle = 0; angle <= 360; angle += 5) {
            for (int part = 0; part <= 1; part++) due("angle " + angle, x.at(angle, 0, 0, part), x.at(angle, 1, 0, part));
        }
        dueAt(x, 0, 0, 0, 0, 1);
        dueAt(x, 20, 1, 0, 7, 1);
        dueAt(x, 50, 0, 0, -2, 1);
        dueAt(x, 360, 1, 0, 0, 1);
    }

    // ---- joins

    private void whereJoinsAre() {
        says("JOINS: JOIN k (1 and on) is where PIECE k begins");
        CamPieces x = cam(LINE, 10, 1, LINE, 10, 1, LINE, 10, 2);
        dueAll("join", row(x.join(-1), x.join(0), x.join(1), x.join(2), x.join(3)), NONE, NONE, 2, 0, NONE);
        dueJump(x, 1, 0, 0, 1);
        dueJump(x, 2, 0, 1, 10);
        due("no jump 3", x.jump(3, 0, 0), NO);
        due("no jump -1", x.jump(-1, 0, 0), NO);
        dueAll("joins", row(x.joins(0), x.joins(1), x.joins(2)), 1 << 2, 0, 1 << 1);
        dueAll("of one piece there is none", row(cam(LINE, 9, 1).join(0), cam(LINE, 9, 1).join(1)), NONE, NONE);
        CamPieces all = twelve(1, 1, 1);
        dueAll("twelve", row(all.join(11), all.join(12), all.joins(2), all.joins(0)), 2, NONE, 4094, 0);
        all.put(11, 2, 2);
        dueAll("the last", row(all.join(11), all.joins(2), all.joins(0)), 0, 2046, 2048);
    }

    private void joinNought() {
        says("JOIN 0 where the first begins, if it is CLOSED (else there is none)");
        CamPieces x = cam(LINE, 180, 9, LINE, 180, -9);
        due("closed", x.join(0), 0);
        // 1/20 less -1/20.
        dueJump(x, 0, 0, 1, 10);
        due("closed, bits", x.joins(0), 3);
        x.put(1, 1, 179);
        due("open", x.join(0), NONE);
        due("open, bits", x.joins(0), 2);
        for (int what = 0; what <= 1; what++) {
            for (int part = 0; part <= 1; part++) due("open, jump", x.jump(0, what, part), NO);
        }
        due("rises", cam(LINE, 180, 9, LINE, 180, -8).join(0), NONE);
        CamPieces none = new CamPieces();
        dueAll("no pieces", row(none.join(0), none.joins(0), none.joins(1), none.joins(2)), NONE, 0, 0, 0);
        CamPieces one = cam(DWELL, 360, 0);
        dueAll("one piece behind itself", row(one.join(0), one.join(1), one.joins(2)), 2, NONE, 1);
        CamPieces all = twelve(349, 9, -99);
        dueAll("twelve", row(all.join(0), all.join(1), all.joins(0), all.joins(1), all.joins(2)), 0, 2, 2049, 0, 2046);
    }

    private void jumpsAreSide1LessSide0() {
        says("JUMP of SLOPE, of BEND: that from SIDE 1 less that from SIDE 0");
        CamPieces x = cam(START, 10, 10, STOP, 10, 30, LINE, 10, -10);
        // SLOPE 2 then 6, BEND 1/5 then -3/5; then 0 and -1, -3/5 and 0.
        dueJump(x, 1, 0, 4, 1);
        dueJump(x, 1, 1, -4, 5);
        dueJump(x, 2, 0, -1, 1);
        dueJump(x, 2, 1, 3, 5);
        CamPieces y = cam(CUBIC, 360, 1);
        y.put(0, 1, 300);
        y.piece(START, 60, -1);
        CamPieces wide = cam(QUINTIC, 180, 99, QUINTIC, 180, -99);
        for (int join = 0; join <= 1; join++) {
            for (int what = 0; what <= 1; what++) dueJump(wide, join, what, 0, 1);
        }
        // At its end START has SLOPE -1/30, BEND -1/1800; CUBIC begins with 0, 1/15000.
        dueJump(y, 0, 0, 1, 30);
        dueJump(y, 0, 1, 7, 11250);
    }

    private void cornersRoughSmooth() {
        says("A JOIN is a CORNER (0), if SLOPE jumps; else ROUGH (1), if BEND does; else SMOOTH (2)");
        due("both jump", cam(START, 10, 1, DWELL, 10, 0).join(1), 0);
        due("slope alone jumps", cam(LINE, 10, 1, DWELL, 10, 0).join(1), 0);
        due("slope hardly jumps", cam(LINE, 180, 99, LINE, 179, 98).join(1), 0);
        due("slope jumps below 0", cam(DWELL, 10, 0, LINE, 10, -1).join(1), 0);
        due("bend alone jumps", cam(DWELL, 10, 0, START, 10, 1).join(1), 1);
        due("bend hardly jumps", cam(CUBIC, 180, 99, CUBIC, 180, -98).join(1), 1);
        due("bend jumps below 0", cam(DWELL, 10, 0, CUBIC, 10, -1).join(1), 1);
        due("start and stop", cam(START, 10, 1, STOP, 10, 1).join(1), 1);
        due("neither", cam(DWELL, 10, 0, QUINTIC, 10, 1).join(1), 2);
        due("both go on", cam(LINE, 10, 3, LINE, 20, 6).join(1), 2);
        due("bends go on", cam(STOP, 10, 3, START, 10, -3).join(1), 2);
        due("cubics go on", cam(CUBIC, 10, 3, CUBIC, 10, -3).join(1), 2);
    }

    // ---- settings

    private void firstSettings() {
        says("(1 .. 999; 100 at first) .. (1 .. 20; 1 at first) .. (0 .. 99; 1 at first) .. (0 .. 9999; 10 at first) ..");
        CamPieces x = new CamPieces();
        dueAll("told", row(x.told(0), x.told(1), x.told(2), x.told(3), x.told(4), x.told(5)), 100, 1, 1, 10, 1, 100);
    }

    private void leastAndMostSettings() {
        says("RADIUS (1 .. 999 ..), MASS (1 .. 20 ..), STIFF (0 .. 99 ..), PRELOAD (0 .. 9999 ..), SPEED (0 .. 30 ..), GRID");
        int[] least = {1, 1, 0, 0, 0, 1}, most = {999, 20, 99, 9999, 30, 1000};
        for (int what = 0; what < 6; what++) {
            CamPieces x = new CamPieces();
            x.tell(what, least[what]);
            due("least " + what, x.told(what), least[what]);
            due("less " + what, x.tell(what, least[what] - 1), BAD);
            due("least still " + what, x.tell(what, most[what]), least[what]);
            due("more " + what, x.tell(what, most[what] + 1), BAD);
            due("most still " + what, x.told(what), most[what]);
            for (int v : new int[] {LOW, -1000, 10001, HIGH}) due("far off " + what, x.tell(what, v), BAD);
            for (int other = 0; other < 6; other++) {
                if (other != what) due("another stays " + other, x.told(other), new CamPieces().told(other));
            }
        }
    }

    private void curveIs() {
        says("CURVE at an ANGLE and SIDE: RADIUS and LIFT and 57 times 57 times BEND");
        CamPieces x = cam(LINE, 10, -4, START, 57, 10, STOP, 57, 10);
        x.tell(0, 1);
        dueFraction("begin of START", x.curve(10, 1, 0), x.curve(10, 1, 1), 17, 1);
        dueFraction("end of LINE", x.curve(10, 0, 0), x.curve(10, 0, 1), -3, 1);
        dueFraction("end of STOP", x.curve(124, 0, 0), x.curve(124, 0, 1), -3, 1);
        x.tell(0, 999);
        dueFraction("999", x.curve(124, 0, 0), x.curve(124, 0, 1), 995, 1);
        dueFraction("LONG 1", cam(STOP, 1, 99).curve(0, 1, 0), 1, 100 - 2 * 99 * 3249, 1);
    }

    private void undercutIs() {
        says("UNDERCUT there: CURVE is 0 or less");
        // At 0 CURVE is RADIUS less 6, at 1 113/1083 more.
        CamPieces x = cam(STOP, 57, 3);
        x.tell(0, 7);
        due("1", x.count(0), 0);
        x.tell(0, 6);
        dueFraction("0", x.curve(0, 1, 0), x.curve(0, 1, 1), 0, 1);
        dueFraction("hardly above 0", x.curve(1, 0, 0), x.curve(1, 0, 1), 113, 1083);
        due("0 alone", x.count(0), 1);
        x = cam(LINE, 57, -1, LINE, 57, -1);
        x.tell(0, 1);
        dueFraction("hardly above 0", x.curve(56, 1, 0), x.curve(56, 1, 1), 1, 57);
        due("0 and below 0, all behind 56", x.count(0), 58);
    }

    private void undercutAtEnds() {
        says("from any SIDE");
        CamPieces x = cam(STOP, 114, 12, LINE, 246, -12);
        // Side 1 of angle 0, and of 360: RADIUS less 6; the others are high enough.
        x.tell(0, 6);
        due("closed: 0 and 360", x.count(0), 2);
        x.put(1, 1, 245);
        due("open: 0", x.count(0), 1);
        x = cam(LINE, 246, 12, START, 114, -12);
        x.tell(0, 6);
        due("closed: 360 and 0", x.count(0), 2);
        x.put(0, 1, 245);
        due("open: the last", x.count(0), 1);
        x = twelveClosed(STOP, 114, 11, 1, 136);
        x.tell(0, 6);
        due("twelve, closed: 0 and 360, from side 1", x.count(0), 2);
        x.mirror();
        due("twelve, closed: 0 and 360, from side 0", x.count(0), 2);
        x = cam(DWELL, 9, 0, STOP, 57, 3, DWELL, 9, 0);
        x.tell(0, 6);
        due("at a join from side 1", x.count(0), 1);
        x = cam(DWELL, 9, 0, START, 57, -3, DWELL, 9, 0);
        x.tell(0, 9);
        due("at a join from side 0", x.count(0), 1);
        x = cam(START, 57, -3, STOP, 57, -3);
        x.tell(0, 1);
        // All of START, 0 to 57; of STOP CURVE is RADIUS and LIFT and 6: 1 at its end.
        due("START alone", x.count(0), 58);
        x = cam(LINE, 2, -9, LINE, 2, -9, LINE, 2, -9);
        x.tell(0, 1);
        due("an angle is one, though it is so from both sides", x.count(0), 6);
    }

    /** A first piece that rises by 12, ten LINES, a last one: down to 0 again. */
    private static CamPieces twelveClosed(int kind, int length, int each, int fall, int last) {
        CamPieces x = cam(kind, length, 12);
        for (int k = 0; k < 10; k++) x.piece(LINE, each, -fall);
        x.piece(LINE, last, -12 + 10 * fall);
        if (x.told(6) != 12 || x.told(8) != 1) throw new IllegalStateException("not twelve, closed");
        return x;
    }

    private void pressureIs() {
        says("PRESSURE: 57 times SLOPE by (RADIUS and LIFT)");
        CamPieces x = cam(LINE, 57, 10, STOP, 57, -5);
        dueFraction("at 0", x.pressure(0, 1, 0), x.pressure(0, 1, 1), 1, 10);
        dueFraction("at 57 from 0", x.pressure(57, 0, 0), x.pressure(57, 0, 1), 1, 11);
        dueFraction("at 57 from 1", x.pressure(57, 1, 0), x.pressure(57, 1, 1), -1, 11);
        dueFraction("at the end", x.pressure(114, 0, 0), x.pressure(114, 0, 1), 0, 1);
        x.tell(0, 999);
        dueFraction("999", x.pressure(0, 1, 0), x.pressure(0, 1, 1), 10, 999);
        x.tell(0, 1);
        dueFraction("1", x.pressure(0, 1, 0), x.pressure(0, 1, 1), 10, 1);
    }

    private void pressureIsMissing() {
        says("none, if RADIUS and LIFT are 0 or less");
        CamPieces x = cam(LINE, 57, -1, DWELL, 5, 0, LINE, 57, -1, DWELL, 5, 0, LINE, 3, 3);
        x.tell(0, 1);
        dueFraction("1/57 is left", x.pressure(56, 0, 0), x.pressure(56, 0, 1), -57, 1);
        int[][] missing = {{57, 0}, {57, 1}, {60, 0}, {62, 1}, {63, 0}, {119, 0}, {121, 1}, {124, 0}, {124, 1}, {125, 0}};
        for (int[] place : missing) {
            for (int part = 0; part <= 1; part++) {
                due("missing at " + place[0], x.pressure(place[0], place[1], part), NO);
            }
        }
        dueFraction("1 is left", x.pressure(126, 1, 0), x.pressure(126, 1, 1), 57, 1);
        x.tell(0, 2);
        dueFraction("level, 1 is left", x.pressure(60, 0, 0), x.pressure(60, 0, 1), 0, 1);
        due("level, 0 is left", x.pressure(120, 0, 1), NO);
    }

    private void forceIs() {
        says("FORCE: PRELOAD, and STIFF times LIFT, and MASS times SPEED times SPEED times 57 times 57 times BEND");
        CamPieces x = cam(LINE, 10, -4, START, 57, 10, STOP, 57, 10);
        x.tell(1, 20);
        x.tell(2, 99);
        x.tell(3, 9999);
        x.tell(4, 30);
        dueFraction("most", x.force(10, 1, 0), x.force(10, 1, 1), 9999 - 396 + 20 * 900 * 20, 1);
        dueFraction("most, downwards", x.force(124, 0, 0), x.force(124, 0, 1), 9999 + 99 * 16 - 20 * 900 * 20, 1);
        x.tell(4, 0);
        dueFraction("SPEED 0", x.force(10, 1, 0), x.force(10, 1, 1), 9999 - 396, 1);
        x.tell(2, 0);
        dueFraction("STIFF 0", x.force(10, 1, 0), x.force(10, 1, 1), 9999, 1);
        x.tell(3, 0);
        dueFraction("PRELOAD 0", x.force(10, 1, 0), x.force(10, 1, 1), 0, 1);
        x.tell(4, 1);
        x.tell(1, 1);
        dueFraction("MASS 1, SPEED 1", x.force(10, 1, 0), x.force(10, 1, 1), 20, 1);
    }

    private void floatsIs() {
        says("It FLOATS where FORCE is 0 or less");
        // At 0 FORCE is PRELOAD less 6, at 1 113/1083 more.
        CamPieces x = cam(STOP, 57, 3);
        x.tell(3, 7);
        dueAll("1", row(x.count(1), x.floating()), 0, THERE_IS_NONE);
        x.tell(3, 6);
        dueFraction("0", x.force(0, 1, 0), x.force(0, 1, 1), 0, 1);
        dueAll("0 alone", row(x.count(1), x.floating()), 1, 0);
        x = cam(LINE, 57, -1, LINE, 57, -1);
        x.tell(3, 1);
        dueFraction("hardly above 0", x.force(56, 1, 0), x.force(56, 1, 1), 1, 57);
        dueAll("0 and below 0", row(x.count(1), x.floating()), 58, 57);
    }

    private void floatsAtEnds() {
        says("where it FLOATS (1), from any SIDE");
        CamPieces x = cam(STOP, 114, 12, LINE, 246, -12);
        x.tell(3, 6);
        dueAll("closed: 0 and 360, from side 1", row(x.count(1), x.floating()), 2, 0);
        x.put(1, 1, 245);
        dueAll("open: 0", row(x.count(1), x.floating()), 1, 0);
        x = cam(LINE, 246, 12, START, 114, -12);
        x.tell(3, 6);
        dueAll("closed: 360 and 0, from side 0", row(x.count(1), x.floating()), 2, 0);
        x.put(0, 1, 245);
        dueAll("open: the last", row(x.count(1), x.floating()), 1, 359);
        x = twelveClosed(STOP, 114, 11, 1, 136);
        x.tell(3, 6);
        dueAll("twelve, closed: 0 and 360, from side 1", row(x.count(1), x.floating()), 2, 0);
        x.mirror();
        dueAll("twelve, closed: 0 and 360, from side 0", row(x.count(1), x.floating()), 2, 0);
        x = cam(DWELL, 9, 0, STOP, 57, 3);
        x.tell(3, 6);
        dueAll("at a join from side 1", row(x.count(1), x.floating()), 1, 9);
        x = cam(START, 57, -3, DWELL, 9, 0);
        x.tell(3, 9);
        dueAll("at a join from side 0", row(x.count(1), x.floating()), 1, 57);
    }

    // ---- samples

    private void sampleToTheNearest() {
        says("to the nearest whole (of two as near the greater, below 0, too)");
        CamPieces up = cam(LINE, 360, 2), down = cam(LINE, 360, -2);
        up.tell(5, 1);
        down.tell(5, 1);
        dueAll("1/2 is at 90, 3/2 at 270", row(up.sample(0), up.sample(89), up.sample(90), up.sample(91), up.sample(269),
            up.sample(270), up.sample(360)), 0, 0, 1, 1, 1, 2, 2);
        dueAll("-1/2 is at 90, -3/2 at 270", row(down.sample(0), down.sample(89), down.sample(90), down.sample(91),
            down.sample(269), down.sample(270), down.sample(271), down.sample(360)), 0, 0, 0, -1, -1, -1, -2, -2);
        CamPieces x = cam(LINE, 1, -7, LINE, 2, 1, LINE, 2, -1);
        x.tell(5, 1);
        dueAll("-13/2 from either side", row(x.sample(1), x.sample(2), x.sample(3), x.sample(4)), -7, -6, -6, -6);
    }

    private void sampleByTheGrid() {
        says("SAMPLE at an ANGLE: LIFT times GRID");
        CamPieces x = cam(LINE, 3, 1);
        for (int[] gridAndSample : new int[][] {{1, 0}, {2, 1}, {100, 33}, {1000, 333}}) {
            x.tell(5, gridAndSample[0]);
            due("a third, by " + gridAndSample[0], x.sample(1), gridAndSample[1]);
        }
        CamPieces high = twelve(349, 99, 99), low = twelve(349, -99, -99);
        high.tell(5, 1000);
        low.tell(5, 1000);
        due("the greatest", high.sample(360), 1188000);
        due("the least", low.sample(360), -1188000);
        CamPieces quintic = cam(QUINTIC, 360, 99);
        quintic.tell(5, 1000);
        // 99000 times 10 by 360^3 is 0.0212, times 10 by 3^3 not far from 6 1/2.
        dueAll("hardly above 0, hardly below 99000", row(quintic.sample(1), quintic.sample(2), quintic.sample(3),
            quintic.sample(357), quintic.sample(359)), 0, 0, 1, 98999, 99000);
    }

    private void errorSteps() {
        says("ERROR of a STEP w (1 .. 60)");
        CamPieces x = cam(LINE, 61, 61, LINE, 61, -61);
        x.tell(5, 1);
        dueFraction("1", x.error(1, 0), x.error(1, 1), 0, 1);
        // At 60, 120, 122: 60, 2, 0; at 61 the line is 60 less 58/60.
        dueFraction("60", x.error(60, 0), x.error(60, 1), 59, 30);
        for (int step : new int[] {0, 61, -1, LOW, HIGH}) {
            for (int part = 0; part <= 1; part++) due("step " + step, x.error(step, part), NO);
        }
    }

    private void errorToTotal() {
        says("of SAMPLES at 0, w, 2 w, .. and TOTAL straight lines from each to the next");
        CamPieces x = cam(LINE, 5, 5, LINE, 3, -3, LINE, 2, 4);
        x.tell(5, 1);
        // 0 1 2 3 4 5 4 3 2 4 6: TOTAL is 10.
        dueFraction("2, up to TOTAL", x.error(2, 0), x.error(2, 1), 1, 1);
        dueFraction("5: 0, 5, 10", x.error(5, 0), x.error(5, 1), 18, 5);
        dueFraction("8: 0, 8, 10", x.error(8, 0), x.error(8, 1), 15, 4);
        dueFraction("9: 0, 9, and TOTAL", x.error(9, 0), x.error(9, 1), 25, 9);
        dueFraction("10: TOTAL alone", x.error(10, 0), x.error(10, 1), 14, 5);
        dueFraction("11: more than TOTAL", x.error(11, 0), x.error(11, 1), 14, 5);
        dueFraction("60: far more", x.error(60, 0), x.error(60, 1), 14, 5);
        CamPieces even = cam(LINE, 9, 9), bent = cam(DWELL, 4, 0, LINE, 1, 6, LINE, 1, -2, LINE, 1, -1);
        even.tell(5, 1);
        bent.tell(5, 1);
        dueFraction("4: 0, 4, 8, 9: the last line is as even", even.error(4, 0), even.error(4, 1), 0, 1);
        // 0 0 0 0 0 6 4 3: the line from 4 to 7 is 1 at 5.
        dueFraction("4: 0, 4, 7: the last line is shorter", bent.error(4, 0), bent.error(4, 1), 5, 1);
        // From 7 on it is 27/7, of 6 8/3.
        dueAll("widest by it", row(bent.widest(385), bent.widest(386)), 6, 60);
        CamPieces one = cam(LINE, 1, 99);
        dueFraction("TOTAL 1", one.error(60, 0), one.error(60, 1), 0, 1);
        CamPieces last = cam(DWELL, 359, 0, LINE, 1, 2);
        last.tell(5, 1);
        dueFraction("TOTAL 360 by 60, the last line", last.error(60, 0), last.error(60, 1), 59, 30);
    }

    private void errorIsGreatest() {
        says("the greatest difference, without sign, at any ANGLE between the line there and its SAMPLE");
        CamPieces x = cam(LINE, 2, 2, LINE, 2, -2, LINE, 2, -6, LINE, 2, 6);
        x.tell(5, 1);
        dueFraction("the lower one", x.error(4, 0), x.error(4, 1), 6, 1);
        x.mirror();
        dueFraction("mirrored", x.error(4, 0), x.error(4, 1), 6, 1);
        x.put(2, 2, -9);
        x.put(3, 2, 9);
        x.put(0, 2, 1);
        x.put(1, 2, -1);
        x.mirror();
        dueFraction("the first one", x.error(4, 0), x.error(4, 1), 9, 1);
        CamPieces level = cam(DWELL, 360, 0);
        dueFraction("none", level.error(60, 0), level.error(60, 1), 0, 1);
    }

    // ---- fractions

    private void lowestTerms() {
        says("Fractions are told in lowest terms: part 0 above .., 1 below the line");
        CamPieces x = cam(LINE, 30, 12, QUINTIC, 60, 30);
        x.tell(0, 24);
        dueAt(x, 10, 0, 0, 4, 1);
        dueAt(x, 1, 0, 0, 2, 5);
        dueAt(x, 1, 0, 1, 2, 5);
        dueAt(x, 1, 0, 2, 0, 1);
        dueAt(x, 60, 0, 0, 27, 1);
        dueAt(x, 60, 0, 1, 15, 16);
        dueAt(x, 45, 0, 2, 3, 64);
        dueFraction("curve", x.curve(45, 0, 0), x.curve(45, 0, 1), 48999, 256);
        dueFraction("pressure", x.pressure(30, 0, 0), x.pressure(30, 0, 1), 19, 30);
        dueFraction("force", x.force(1, 0, 0), x.force(1, 0, 1), 52, 5);
        CamPieces long360 = cam(QUINTIC, 360, 99);
        // 30 times 99 times 359 squared by 360 to the fifth.
        dueAt(long360, 1, 0, 1, 1417691, 22394880000L);
        for (int part : new int[] {-1, 2, LOW, HIGH}) {
            due("at, part " + part, x.at(1, 0, 0, part), NO);
            due("curve, part " + part, x.curve(1, 0, part), NO);
            due("pressure, part " + part, x.pressure(1, 0, part), NO);
            due("force, part " + part, x.force(1, 0, part), NO);
            due("jump, part " + part, x.jump(1, 0, part), NO);
            due("error, part " + part, x.error(1, part), NO);
        }
    }

    private void belowNoughtIsAbove() {
        says("part 0 above (below 0, too), 1 below the line");
        CamPieces x = cam(LINE, 30, -12, START, 30, -12);
        x.tell(0, 1);
        x.tell(3, 0);
        dueAt(x, 1, 1, 0, -2, 5);
        dueAt(x, 1, 1, 1, -2, 5);
        dueAt(x, 40, 1, 2, -2, 75);
        dueJump(x, 1, 0, 2, 5);
        dueJump(x, 1, 1, -2, 75);
        dueFraction("curve", x.curve(5, 0, 0), x.curve(5, 0, 1), -1, 1);
        dueFraction("pressure", x.pressure(1, 0, 0), x.pressure(1, 0, 1), -38, 1);
        dueFraction("force", x.force(1, 0, 0), x.force(1, 0, 1), -2, 5);
    }
}
