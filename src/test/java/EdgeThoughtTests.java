/** Each sentence of what is told 'in thought': the least and the greatest that do, one more, one less, none. */
public final class EdgeThoughtTests extends Edge {
    private EdgeThoughtTests() {
        super("edges in thought");
    }

    public static void main(String[] args) {
        EdgeThoughtTests t = new EdgeThoughtTests();
        t.withoutPieces(); t.extremes(); t.leastRadius(); t.leastRadiusHardly(); t.leastRadiusNone(); t.leastRadiusFromEnds();
        t.steepestFirst(); t.steepestByLittle(); t.steepestWithoutSign(); t.steepestMissing(); t.steepestLevel();
        t.steepestFromEnds();
        t.gentleHundredths(); t.gentleBounds(); t.gentleThere(); t.gentleFromEnds();
        t.floatingFirst(); t.leastPreload(); t.leastPreloadBounds(); t.leastPreloadFromEnds();
        t.leastStiff(); t.leastStiffBounds(); t.leastStiffBetween(); t.fastest(); t.fastestBounds(); t.fastestBetween();
        t.ownSettingIsOfNoMatter(); t.asIsAfterTelling();
        t.smoothedFewest(); t.smoothedLeast(); t.smoothedKinds(); t.smoothedJoins(); t.smoothedTwelve();
        t.widestBounds(); t.widestOfAll(); t.widestHundredths(); t.widestLastLine(); t.widestAtAnyAngle();
        t.end();
    }

    private void withoutPieces() {
        says("(without PIECES there are none)");
        CamPieces x = new CamPieces();
        dueThoughtsOfNone("new", x);
        for (int what = 0; what < 6; what++) x.tell(what, new int[] {1, 20, 99, 0, 30, 1000}[what]);
        dueThoughtsOfNone("told", x);
        x = cam(LINE, 5, -99);
        x.drop();
        dueThoughtsOfNone("dropped", x);
    }

    private void dueThoughtsOfNone(String call, CamPieces x) {
        dueAll(call + ": Without PIECES LEAST RADIUS and GENTLE tell 1, LEAST PRELOAD 0, FASTEST 30",
            row(x.leastRadius(), x.gentle(0), x.gentle(999), x.leastPreload(), x.leastStiff(), x.fastest()), 1, 1, 1, 0, 0, 30);
        dueAll(call + ": no angle", row(x.steepest(), x.floating(), x.steepestPiece(), x.extreme(0), x.extreme(1)),
            -5, -5, -5, -5, -5);
        dueAll(call + ": none to count", row(x.count(0), x.count(1), x.smoothed(), x.joins(0), x.joins(1), x.joins(2),
            x.unlike(-1), x.mirror()), 0, 0, 0, 0, 0, 0, 0, 0);
        dueAll(call + ": no error", row(x.error(1, 0), x.error(1, 1), x.widest(0), x.widest(9999)), NO, NO, STATE, STATE);
    }

    private void extremes() {
        says("The ANGLE at which LIFT is greatest (what 0), least (1), of several the first");
        dueExtremes("both at the ends", cam(LINE, 360, 1), 360, 0);
        dueExtremes("both at the ends", cam(LINE, 360, -1), 0, 360);
        dueExtremes("all alike", cam(DWELL, 360, 0), 0, 0);
        dueExtremes("twice", cam(LINE, 9, 5, LINE, 9, -5, LINE, 9, 5, LINE, 9, -5), 9, 0);
        dueExtremes("twice, below", cam(LINE, 9, -5, LINE, 9, 5, LINE, 9, -5, LINE, 9, 5), 0, 9);
        dueExtremes("as high as 0", cam(LINE, 9, -5, LINE, 9, 5, DWELL, 9, 0), 0, 9);
        dueExtremes("higher by 1 at last", cam(LINE, 9, 5, LINE, 9, -6, LINE, 9, 7), 27, 18);
        dueExtremes("where a dwell begins", cam(CUBIC, 9, 5, DWELL, 9, 0, QUINTIC, 9, -10, DWELL, 9, 0), 9, 27);
        dueExtremes("twelve", twelve(349, 1, 1), 360, 0);
        dueExtremes("twelve, closed", twelve(349, 9, -99), 11, 0);
    }

    private void dueExtremes(String call, CamPieces x, int greatest, int least) {
        dueAll(call, row(x.extreme(0), x.extreme(1)), greatest, least);
    }

    // ---- radius

    private void leastRadius() {
        says("LEAST RADIUS (1 .. 999): by which it is UNDERCUT nowhere");
        due("level", cam(DWELL, 9, 0).leastRadius(), 1);
        due("upwards", cam(START, 57, 99).leastRadius(), 1);
        due("by 6 CURVE is 0", cam(STOP, 57, 3).leastRadius(), 7);
        due("lift -20 alone", cam(LINE, 9, -20).leastRadius(), 21);
        due("lift -998", twelve(1, -90, -8).leastRadius(), 999);
        due("bend", cam(STOP, 57, 99).leastRadius(), 199);
        due("bend, from side 0", cam(START, 57, -99).leastRadius(), 298);
    }

    private void leastRadiusHardly() {
        says("UNDERCUT there: CURVE is 0 or less (the least RADIUS of a CURVE between two whole ones)");
        // 3249 times 2 by LONG squared: 0.990 of 81, 1.015 of 80.
        due("hardly less than 1", cam(STOP, 81, 1).leastRadius(), 1);
        due("hardly more than 1", cam(STOP, 80, 1).leastRadius(), 2);
        due("lift hardly above -1", cam(LINE, 9, -1, LINE, 9, 1).leastRadius(), 2);
        due("1/2", cam(STOP, 114, 1).leastRadius(), 1);
        due("3/2", cam(STOP, 114, 3).leastRadius(), 2);
    }

    private void leastRadiusNone() {
        says("LEAST RADIUS (1 .. 999) ..; -5");
        due("lift -999", twelve(1, -90, -9).leastRadius(), -5);
        due("lift -1188", twelve(1, -99, -99).leastRadius(), -5);
        due("STOP of LONG 1", cam(STOP, 1, 1).leastRadius(), -5);
        // By LONG 19 CURVE is RADIUS less 18 times RISE: 990, 1008.
        due("STOP, 990", cam(STOP, 19, 55).leastRadius(), 991);
        due("STOP, 1008", cam(STOP, 19, 56).leastRadius(), -5);
        due("998 and the lift at the end", cam(LINE, 9, -8, STOP, 19, 55).leastRadius(), 999);
        due("999 and the lift at the end", cam(LINE, 9, -9, STOP, 19, 55).leastRadius(), -5);
    }

    private void leastRadiusFromEnds() {
        says("In thought: at ANGLES, both SIDES (that there are)");
        due("side 1 of 0", cam(STOP, 57, 9, LINE, 303, -9).leastRadius(), 19);
        due("side 0 of the last", cam(LINE, 303, 9, START, 57, -9).leastRadius(), 19);
        due("side 1 of a join", cam(DWELL, 9, 0, STOP, 57, 9).leastRadius(), 19);
        due("side 0 of a join", cam(START, 57, -9, DWELL, 9, 0).leastRadius(), 28);
        // At 45 CURVE is RADIUS less 43.5, at 44 and 46 higher.
        due("within", cam(QUINTIC, 57, 9).leastRadius(), 44);
        due("of one", cam(STOP, 57, 9).leastRadius(), 19);
    }

    // ---- pressure

    private void steepestFirst() {
        says("STEEPEST: the ANGLE at which PRESSURE, without sign, is greatest, of several the first");
        due("the second is as great", cam(LINE, 57, 5, LINE, 57, -5, LINE, 57, 5).steepest(), 0);
        due("the second is greater", cam(LINE, 57, 5, LINE, 57, -5, LINE, 57, 6).steepest(), 114);
        due("half as steep ahead", cam(LINE, 2, 1, LINE, 1, 1).steepest(), 2);
        due("half as steep behind", cam(LINE, 1, 1, LINE, 2, 1).steepest(), 0);
        due("hardly greater", cam(LINE, 99, 98, LINE, 99, -98, LINE, 98, 98).steepest(), 198);
        due("at its beginning, LIFT is least there", cam(DWELL, 9, 0, LINE, 9, 9).steepest(), 9);
        due("at its end, LIFT is least there", cam(DWELL, 9, 0, LINE, 9, -9).steepest(), 18);
        due("from side 0", cam(START, 9, -9, DWELL, 9, 0).steepest(), 9);
        due("from side 1", cam(DWELL, 9, 0, STOP, 9, -9).steepest(), 9);
    }

    private void steepestByLittle() {
        says("the ANGLE at which PRESSURE, without sign, is greatest, of several the first");
        // By RADIUS 1 PRESSURE is 57 times RISE by LONG where LIFT is 0: at 0, again at twice LONG, and behind that.
        for (int one = 1; one <= 13; one++) {
            for (int other = 1; other <= 13; other++) {
                for (int rise = 1; rise <= 8; rise++) steepestOf(one, rise, other);
            }
        }
    }

    private void steepestOf(int one, int rise, int other) {
        for (int otherRise = 1; otherRise <= 8; otherRise++) {
            CamPieces x = cam(LINE, one, rise, LINE, one, -rise, LINE, other, otherRise);
            x.tell(0, 1);
            boolean isMore = otherRise * one > rise * other;
            due(rise + " by " + one + ", then " + otherRise + " by " + other, x.steepest(), isMore ? 2 * one : 0);
        }
    }

    private void steepestWithoutSign() {
        says("PRESSURE, without sign, is greatest");
        due("down", cam(LINE, 57, 5, LINE, 57, -6).steepest(), 114);
        due("up", cam(LINE, 57, -5, LINE, 57, 6).steepest(), 57);
        due("as great, up at the lowest", cam(LINE, 57, -5, LINE, 57, 5).steepest(), 57);
    }

    private void steepestMissing() {
        says("(those without PRESSURE don't count)");
        CamPieces x = cam(LINE, 10, -10, LINE, 10, 90);
        x.tell(0, 10);
        // At 9 it is 57 by 1; at 10 there is none; at 11 57 times 9 by 9.
        due("0 at 10", x.steepest(), 9);
        x.tell(0, 11);
        due("1 at 10", x.steepest(), 10);
        x.tell(0, 1);
        // At 11 LIFT is -1: none; at 12 it is 8: 57 times 9 by 9, as at 0.
        due("below 0 from 1 to 11", x.steepest(), 0);
        x = cam(LINE, 5, -5, DWELL, 9, 0);
        x.tell(0, 5);
        due("none behind 4", x.steepest(), 4);
        x = cam(DWELL, 3, 0, LINE, 1, -1, LINE, 1, 99);
        x.tell(0, 1);
        due("side 0 of 3 has one, 4 none", x.steepest(), 3);
    }

    private void steepestLevel() {
        says("Where all PRESSURES are 0, STEEPEST is the first ANGLE");
        due("level", cam(DWELL, 9, 0).steepest(), 0);
        due("level, closed", cam(DWELL, 360, 0).steepest(), 0);
        due("level, several", cam(DWELL, 9, 0, DWELL, 9, 0).steepest(), 0);
        due("QUINTIC of LONG 1 has SLOPE 0 at both ends", cam(QUINTIC, 1, 9).steepest(), 0);
        due("CUBIC of LONG 1, behind a dwell", cam(DWELL, 3, 0, CUBIC, 1, 9).steepest(), 0);
        due("there is none without PIECES alone", new CamPieces().steepest(), -5);
    }

    private void steepestFromEnds() {
        says("In thought: at ANGLES, both SIDES (that there are), in order, SIDE 0 ahead");
        due("closed: side 0 of 0", cam(DWELL, 180, 0, LINE, 90, 9, LINE, 90, -9).steepest(), 0);
        due("open: the last", cam(DWELL, 179, 0, LINE, 90, 9, LINE, 90, -9).steepest(), 179);
        due("closed: side 1 of 0", cam(LINE, 90, 9, STOP, 270, -9).steepest(), 0);
        due("open: from 0 on", cam(DWELL, 10, 0, LINE, 90, 9, LINE, 90, -10).steepest(), 190);
    }

    private void gentleHundredths() {
        says("GENTLE: the least RADIUS by which PRESSURE, without sign, is n hundredths or less everywhere");
        CamPieces x = cam(LINE, 57, 5);
        dueAll("5 by RADIUS", row(x.gentle(10), x.gentle(50), x.gentle(100), x.gentle(499), x.gentle(500)), 50, 10, 5, 2, 1);
        due("just so", x.gentle(20), 25);
        due("less by one hundredth", x.gentle(19), 27);
        CamPieces down = cam(LINE, 57, -5);
        dueAll("5 by (RADIUS less 5)", row(down.gentle(10), down.gentle(50), down.gentle(500)), 55, 15, 6);
        due("the end of START", cam(START, 57, 10).gentle(100), 10);
        // 41 times 139 is 5699, 1 less than 100 times 57.
        due("hardly more than 41 hundredths", cam(LINE, 1, 1).gentle(41), 140);
    }

    private void gentleBounds() {
        says("GENTLE (n 0 .. 999); -5. BAD");
        CamPieces x = cam(LINE, 57, 9);
        due("0", x.gentle(0), -5);
        due("1", x.gentle(1), 900);
        due("999", x.gentle(999), 1);
        for (int n : new int[] {-1, 1000, LOW, HIGH}) {
            due("n " + n, x.gentle(n), BAD);
            due("n " + n + ", without PIECES", new CamPieces().gentle(n), BAD);
        }
        due("level, 0", cam(DWELL, 9, 0).gentle(0), 1);
        due("990 by 99", cam(LINE, 57, 99).gentle(10), 990);
        due("999 does", cam(LINE, 57, -99).gentle(11), 999);
        due("1000 would do", cam(LINE, 57, 10).gentle(1), -5);
        due("1000 would do, for the lift", cam(LINE, 300, -1, LINE, 57, -99).gentle(11), -5);
        due("10 by 1 is more than 999 hundredths", cam(LINE, 57, 10).gentle(999), 2);
        due("0 everywhere, but PRESSURE is missing", cam(QUINTIC, 1, -7).gentle(0), 8);
        due("... at 999, too", twelve(1, -90, -9).gentle(999), -5);
    }

    private void gentleThere() {
        says("GENTLE asks for a RADIUS by which it is missing nowhere");
        due("0 would be missing", cam(LINE, 360, -1).gentle(999), 2);
        due("at a level place, too", cam(QUINTIC, 1, -99, DWELL, 9, 0).gentle(999), 100);
        due("lift -998", cam(QUINTIC, 1, -99, QUINTIC, 1, -99, QUINTIC, 1, -99, QUINTIC, 1, -99, QUINTIC, 1, -99,
            QUINTIC, 1, -99, QUINTIC, 1, -99, QUINTIC, 1, -99, QUINTIC, 1, -99, QUINTIC, 1, -99, QUINTIC, 1, -8).gentle(0), 999);
        due("lift -999", cam(QUINTIC, 1, -99, QUINTIC, 1, -99, QUINTIC, 1, -99, QUINTIC, 1, -99, QUINTIC, 1, -99,
            QUINTIC, 1, -99, QUINTIC, 1, -99, QUINTIC, 1, -99, QUINTIC, 1, -99, QUINTIC, 1, -99, QUINTIC, 1, -9).gentle(0), -5);
    }

    private void gentleFromEnds() {
        says("everywhere (and is there everywhere)");
        due("closed", cam(LINE, 57, 9, LINE, 303, -9).gentle(100), 9);
        due("side 0 of 57", cam(START, 57, -9, DWELL, 9, 0).gentle(100), 27);
        due("side 1 of 9", cam(DWELL, 9, 0, STOP, 57, 9).gentle(100), 18);
        due("the last", cam(DWELL, 9, 0, START, 57, -9).gentle(100), 27);
    }

    // ---- springs

    private void floatingFirst() {
        says("FLOATING: the first ANGLE where it FLOATS; -5");
        CamPieces x = cam(LINE, 20, -20);
        x.tell(3, 20);
        due("0 at the last", x.floating(), 20);
        x.tell(3, 21);
        due("1 at the last", x.floating(), -5);
        x.tell(3, 1);
        due("from 1 on", x.floating(), 1);
        x.tell(3, 0);
        due("from 0 on", x.floating(), 0);
        due("closed: side 0 of 0 alone", floatingWith(6, cam(LINE, 303, 3, START, 57, -3)), 0);
        due("open: the last alone", floatingWith(6, cam(LINE, 302, 3, START, 57, -3)), 359);
        due("closed: side 1 of 360 is behind 0", floatingWith(6, cam(STOP, 57, 3, LINE, 303, -3)), 0);
    }

    private static int floatingWith(int preload, CamPieces x) {
        x.tell(3, preload);
        return x.floating();
    }

    private void leastPreload() {
        says("LEAST PRELOAD .. by which it FLOATS nowhere");
        due("level: 0 floats", cam(DWELL, 9, 0).leastPreload(), 1);
        due("6 floats", cam(STOP, 57, 3).leastPreload(), 7);
        due("1/2", cam(STOP, 114, 1).leastPreload(), 1);
        due("3/2", cam(STOP, 114, 3).leastPreload(), 2);
        due("hardly less than 1", cam(STOP, 81, 1).leastPreload(), 1);
        due("hardly more than 1", cam(STOP, 80, 1).leastPreload(), 2);
        due("hardly bent upwards: at rest at its end", cam(START, 57, 1, DWELL, 5, 0).leastPreload(), 0);
    }

    private void leastPreloadBounds() {
        says("LEAST PRELOAD .. (0 .. 9999); -5");
        CamPieces x = cam(START, 57, 1);
        due("0", x.leastPreload(), 0);
        x.tell(4, 0);
        due("at rest it would float by 0", x.leastPreload(), 1);
        x = cam(LINE, 57, -98, STOP, 57, 37);
        x.tell(1, 4);
        x.tell(2, 99);
        due("9702 and 296 are 9998", x.leastPreload(), 9999);
        x = cam(LINE, 57, -99, STOP, 57, 99);
        x.tell(2, 99);
        due("9801 and 198 are 9999", x.leastPreload(), -5);
        x = cam(STOP, 1, 99);
        x.tell(1, 20);
        x.tell(4, 30);
        due("far more", x.leastPreload(), -5);
        x = twelve(1, -99, -99);
        x.tell(2, 99);
        due("the lowest", x.leastPreload(), -5);
    }

    private void leastPreloadFromEnds() {
        says("LEAST PRELOAD: at ANGLES, both SIDES (that there are)");
        due("side 1 of 0, closed", cam(STOP, 57, 3, LINE, 303, -3).leastPreload(), 7);
        due("side 0 of 360, closed", cam(LINE, 303, 3, START, 57, -3).leastPreload(), 7);
        due("side 0 of the last, open", cam(LINE, 302, 3, START, 57, -3).leastPreload(), 7);
        due("side 1 of a join", cam(DWELL, 5, 0, STOP, 57, 3).leastPreload(), 7);
        due("side 0 of a join", cam(START, 57, -3, DWELL, 5, 0).leastPreload(), 10);
    }

    private void leastStiff() {
        says("LEAST STIFF by which it FLOATS nowhere");
        CamPieces x = cam(LINE, 57, 1, STOP, 57, 5);
        // At 57 FORCE is PRELOAD and STIFF less 10.
        dueAll("10 less PRELOAD and 1", row(stiffWith(11, x), stiffWith(10, x), stiffWith(9, x), stiffWith(1, x)), 0, 1, 2, 10);
        due("at 0 it is PRELOAD", stiffWith(0, x), -5);
        due("more than 1/2", stiffWith(1, cam(LINE, 57, 2, STOP, 57, 1)), 1);
        due("more than 3/2", stiffWith(1, cam(LINE, 57, 2, STOP, 57, 2)), 2);
    }

    private static int stiffWith(int preload, CamPieces x) {
        x.tell(3, preload);
        return x.leastStiff();
    }

    private void leastStiffBounds() {
        says("LEAST STIFF .. (0 .. 99); -5");
        due("0", cam(DWELL, 9, 0).leastStiff(), 0);
        due("0, below", cam(LINE, 9, -9).leastStiff(), 0);
        due("99", stiffWith(2, cam(LINE, 57, 1, STOP, 57, 50)), 99);
        due("100 would do", stiffWith(1, cam(LINE, 57, 1, STOP, 57, 50)), -5);
        due("no PRELOAD, level", stiffWith(0, cam(DWELL, 9, 0)), -5);
        due("no PRELOAD, where LIFT is 0 BEND is above", stiffWith(0, cam(START, 57, 9)), 0);
    }

    private void leastStiffBetween() {
        says("LEAST STIFF, FASTEST: the least .. one of all that do");
        // At 57 FORCE is PRELOAD and 2 STIFF less 16, at 214 PRELOAD less 3 STIFF.
        CamPieces x = cam(LINE, 57, 2, STOP, 57, 8, LINE, 100, -13);
        due("1 to 4 do", stiffWith(15, x), 1);
        due("2 to 4 do", stiffWith(13, x), 2);
        due("3 alone does", stiffWith(11, x), 3);
        due("3 floats at 57, 4 at 214", stiffWith(10, x), -5);
        due("none", stiffWith(9, x), -5);
        // At 1 FORCE is 5 less STIFF, at 2 5 and STIFF less twice the last RISE.
        due("4 alone", stiffWith(5, cam(LINE, 1, -1, LINE, 1, 2, STOP, 57, 4)), 4);
        due("5 floats at 1", stiffWith(5, cam(LINE, 1, -1, LINE, 1, 2, STOP, 57, 5)), -5);
    }

    private void fastest() {
        says("FASTEST: the greatest SPEED by which it FLOATS nowhere");
        CamPieces x = cam(STOP, 57, 1);
        // At 0 FORCE is PRELOAD less 2 SPEED SPEED.
        dueAll("PRELOAD 1, 2, 3, 8, 9, 18, 19, 200, 201", row(fastWith(1, x), fastWith(2, x), fastWith(3, x), fastWith(8, x),
            fastWith(9, x), fastWith(18, x), fastWith(19, x), fastWith(200, x), fastWith(201, x)), 0, 0, 1, 1, 2, 2, 3, 9, 10);
        x.tell(1, 2);
        dueAll("twice the MASS", row(fastWith(4, x), fastWith(5, x), fastWith(400, x), fastWith(401, x)), 0, 1, 9, 10);
    }

    private static int fastWith(int preload, CamPieces x) {
        x.tell(3, preload);
        return x.fastest();
    }

    private void fastestBounds() {
        says("FASTEST .. (0 .. 30); -5");
        CamPieces x = cam(STOP, 57, 1);
        dueAll("30, 29", row(fastWith(1801, x), fastWith(1800, x)), 30, 29);
        due("far more", fastWith(9999, x), 30);
        due("0", fastWith(1, x), 0);
        due("none", fastWith(0, x), -5);
        due("level", fastWith(1, cam(DWELL, 9, 0)), 30);
        due("level, none", fastWith(0, cam(DWELL, 9, 0)), -5);
        due("upwards", fastWith(1, cam(START, 57, 99)), 30);
        due("at rest it floats, by 1 and above it doesn't", fastWith(0, cam(START, 57, 99)), 30);
        due("the lift at its end", fastWith(10, cam(LINE, 9, -10)), -5);
    }

    private void fastestBetween() {
        says("LEAST STIFF, FASTEST: .. the greatest one of all that do");
        // At 57 FORCE is PRELOAD less 3 STIFF and 6 SPEED SPEED, at 114 PRELOAD less 2 SPEED SPEED.
        CamPieces x = cam(STOP, 57, -3, START, 57, 3, STOP, 57, 1);
        x.tell(2, 4);
        x.tell(3, 9);
        // At rest it is 9 and 4 LIFT: 0 or less from LIFT -9/4 on, behind 28.
        int[] due = {29, -5, -5, 114};
        for (int speed = 0; speed <= 3; speed++) {
            x.tell(4, speed);
            due("by speed " + speed, x.floating(), due[speed]);
        }
        due("1 and 2 do", x.fastest(), 2);
        due("1 alone", fastWith(8, x), 1);
        x.tell(2, 7);
        due("2 alone, 1 floats", fastWith(9, x), 2);
        due("none: 2 floats at 114, 1 at 57", fastWith(8, x), -5);
    }

    private void ownSettingIsOfNoMatter() {
        says("the least RADIUS by which .. LEAST PRELOAD, LEAST STIFF by which .. the greatest SPEED by which");
        CamPieces x = cam(LINE, 57, -2, STOP, 57, 5);
        long[] first = row(x.leastRadius(), x.gentle(50), x.leastPreload());
        x.tell(0, 1);
        x.tell(3, 9999);
        dueAll("RADIUS, PRELOAD", row(x.leastRadius(), x.gentle(50), x.leastPreload()), first);
        dueAll("as reckoned", first, 13, 22, 13);
        x.tell(3, 1000);
        x.tell(2, 99);
        due("STIFF 99", x.leastStiff(), 0);
        x.tell(2, 0);
        due("STIFF 0", x.leastStiff(), 0);
        for (int speed : new int[] {0, 1, 30}) {
            x.tell(4, speed);
            due("SPEED " + speed, x.fastest(), 9);
        }
    }

    private void asIsAfterTelling() {
        says("by which it is UNDERCUT nowhere; .. by which it FLOATS nowhere");
        CamPieces x = cam(START, 40, 10, STOP, 40, 10, DWELL, 60, 0, CUBIC, 80, -20, DWELL, 140, 0);
        int radius = x.leastRadius(), preload = x.leastPreload();
        x.tell(0, radius);
        due("UNDERCUT nowhere", x.count(0), 0);
        x.tell(0, radius - 1);
        due("by 1 less somewhere", x.count(0) > 0 ? 1 : 0, 1);
        x.tell(3, preload);
        dueAll("FLOATS nowhere", row(x.count(1), x.floating()), 0, -5);
        x.tell(3, preload - 1);
        due("by 1 less somewhere", x.count(1) > 0 && x.floating() >= 0 ? 1 : 0, 1);
        x.tell(3, 200);
        int speed = x.fastest();
        x.tell(4, speed);
        due("FLOATS nowhere", x.count(1), 0);
        x.tell(4, speed + 1);
        due("by 1 more somewhere", x.count(1) > 0 ? 1 : 0, 1);
        int stiff = x.leastStiff();
        x.tell(2, stiff);
        due("FLOATS nowhere", x.count(1), 0);
        x.tell(2, stiff - 1);
        due("by 1 less somewhere", x.count(1) > 0 ? 1 : 0, 1);
    }

    // ---- smoothed

    private void smoothedFewest() {
        says("SMOOTHED: the fewest PIECES whose KIND becomes QUINTIC .. so that no JOIN is a CORNER: bits");
        due("one alone", cam(LINE, 9, 1).smoothed(), 0);
        due("no corner", cam(LINE, 9, 1, LINE, 18, 2).smoothed(), 0);
        due("one", cam(LINE, 9, 1, DWELL, 9, 0).smoothed(), 1);
        due("the other one", cam(DWELL, 9, 0, LINE, 9, 1).smoothed(), 2);
        due("both", cam(LINE, 9, 1, LINE, 9, 2).smoothed(), 3);
        due("all that hang together", cam(LINE, 9, 1, LINE, 9, 1, LINE, 9, 1, DWELL, 9, 0).smoothed(), 7);
        due("not those behind a dwell", cam(LINE, 9, 1, DWELL, 9, 0, STOP, 9, -1, START, 9, 1, STOP, 9, 1).smoothed(), 1 | 4);
        due("a rough join stays", cam(START, 9, 1, STOP, 9, 1, DWELL, 9, 0).smoothed(), 0);
    }

    private void smoothedLeast() {
        says("bits, of several the least");
        // START is level where it begins, STOP where it ends; the join between asks for both or none.
        due("both are asked for", cam(START, 9, 1, STOP, 9, 2).smoothed(), 3);
        due("of four the two middle ones", cam(DWELL, 9, 0, START, 9, 1, STOP, 9, 2, DWELL, 9, 0).smoothed(), 6);
        due("those at the end", cam(CUBIC, 9, 1, CUBIC, 9, 1, LINE, 9, 1).smoothed(), 4);
        due("none is the least of all", cam(CUBIC, 9, 1, STOP, 9, 1).smoothed(), 2);
    }

    private void smoothedKinds() {
        says("(LINE, START, STOP, CUBIC alone may)");
        int[] dwellAhead = {0, 2, 0, 2, 0, 0}, dwellBehind = {0, 1, 1, 0, 0, 0};
        for (int kind = 0; kind <= 5; kind++) {
            int rise = kind == 0 ? 0 : 5;
            due("behind a dwell, kind " + kind, cam(DWELL, 9, 0, kind, 9, rise).smoothed(), dwellAhead[kind]);
            due("ahead of a dwell, kind " + kind, cam(kind, 9, rise, DWELL, 9, 0).smoothed(), dwellBehind[kind]);
            due("behind a quintic, kind " + kind, cam(QUINTIC, 9, 7, kind, 9, rise).smoothed(), dwellAhead[kind]);
            due("ahead of a quintic, kind " + kind, cam(kind, 9, rise, QUINTIC, 9, 7).smoothed(), dwellBehind[kind]);
            due("ahead of a cubic, kind " + kind, cam(kind, 9, rise, CUBIC, 9, 7).smoothed(), dwellBehind[kind]);
        }
    }

    private void smoothedJoins() {
        says("so that no JOIN is a CORNER (JOIN 0 is one, if it is CLOSED)");
        due("closed", cam(STOP, 180, 9, START, 180, -9).smoothed(), 3);
        due("open", cam(STOP, 180, 9, START, 179, -9).smoothed(), 0);
        due("closed, RISES 1", cam(STOP, 180, 9, START, 180, -8).smoothed(), 0);
        due("closed, the first", cam(STOP, 180, 9, CUBIC, 180, -9).smoothed(), 1);
        due("closed, the last", cam(CUBIC, 180, 9, START, 180, -9).smoothed(), 2);
        due("closed, no corner at 0", cam(START, 180, 9, STOP, 180, -9).smoothed(), 3);
        due("closed, a line through 0", cam(LINE, 90, 9, CUBIC, 180, -18, LINE, 90, 9).smoothed(), 5);
        due("a dwell all round", cam(DWELL, 360, 0).smoothed(), 0);
    }

    private void smoothedTwelve() {
        says("SMOOTHED, of twelve PIECES");
        CamPieces x = new CamPieces();
        for (int k = 0; k < 12; k++) x.piece(LINE, 1, k % 2 == 0 ? 1 : -1);
        due("all", x.smoothed(), 4095);
        x.put(11, 0, QUINTIC);
        due("all but the last", x.smoothed(), 2047);
        due("none", twelve(1, 1, 1).smoothed(), 0);
        due("all, for the last", twelve(1, 1, 2).smoothed(), 4095);
        x = new CamPieces();
        for (int k = 0; k < 11; k++) x.piece(CUBIC, 1, 1);
        x.piece(LINE, 1, 1);
        due("the last alone", x.smoothed(), 2048);
    }

    // ---- the widest step

    private void widestBounds() {
        says("The widest STEP whose ERROR is e (0 .. 9999) hundredths or less; -5. BAD; STATE: no PIECES");
        CamPieces x = cam(LINE, 1, 1);
        for (int e : new int[] {0, 9999}) due("e " + e, x.widest(e), 60);
        for (int e : new int[] {-1, 10000, LOW, HIGH}) {
            due("e " + e, x.widest(e), BAD);
            due("e " + e + ", without PIECES", new CamPieces().widest(e), BAD);
        }
        due("without PIECES", new CamPieces().widest(0), STATE);
        due("STEP 1 has no ERROR ever", cam(LINE, 1, 99, LINE, 1, -99, LINE, 1, 99).widest(0), 1);
    }

    private void widestOfAll() {
        says("The widest STEP");
        CamPieces x = cam(LINE, 60, 60, LINE, 60, -60);
        due("60 does", x.widest(0), 60);
        x = cam(LINE, 59, 59, LINE, 59, -59);
        due("60 doesn't, 59 does", x.widest(0), 59);
        x = cam(LINE, 1, 1, LINE, 99, -1);
        due("1 alone: no wider one has its corner at 1", x.widest(0), 1);
        x = cam(LINE, 3, 3, LINE, 3, -3);
        due("3 does, 2 doesn't, wider ones don't", x.widest(0), 3);
        due("all do", cam(DWELL, 360, 0).widest(0), 60);
    }

    private void widestHundredths() {
        says("whose ERROR is e hundredths or less");
        CamPieces x = cam(LINE, 3, 3, LINE, 3, -3);
        x.tell(5, 1);
        // 0 1 2 3 2 1 0.
        dueFraction("of 2", x.error(2, 0), x.error(2, 1), 1, 1);
        dueFraction("of 4", x.error(4, 0), x.error(4, 1), 3, 2);
        dueFraction("of 5", x.error(5, 0), x.error(5, 1), 12, 5);
        dueFraction("of 6", x.error(6, 0), x.error(6, 1), 3, 1);
        dueAll("149, 150, 239, 240, 299, 300", row(x.widest(149), x.widest(150), x.widest(239), x.widest(240), x.widest(299),
            x.widest(300)), 3, 4, 4, 5, 5, 60);
        x = cam(LINE, 1, 1, DWELL, 2, 0);
        x.tell(5, 1);
        // 0 1 1 1: ERROR of 2 is 1/2, of 3 2/3.
        dueAll("49, 50, 66, 67", row(x.widest(49), x.widest(50), x.widest(66), x.widest(67)), 1, 2, 2, 60);
    }

    private void widestLastLine() {
        says("of SAMPLES at 0, w, 2 w, .. and TOTAL straight lines from each to the next");
        CamPieces x = cam(DWELL, 60, 0, LINE, 1, 1, DWELL, 1, 0);
        x.tell(5, 1);
        // 0 up to 60, then 1 1: of 60 the last line is 2 long and off by 1/2, of 59 3 long and off by 1/3.
        dueFraction("of 60", x.error(60, 0), x.error(60, 1), 1, 2);
        dueFraction("of 59", x.error(59, 0), x.error(59, 1), 1, 3);
        dueAll("33, 34, 49, 50", row(x.widest(33), x.widest(34), x.widest(49), x.widest(50)), 1, 59, 59, 60);
    }

    private void widestAtAnyAngle() {
        says("the greatest difference, without sign, at any ANGLE");
        CamPieces x = cam(DWELL, 300, 0, LINE, 1, 1, LINE, 1, -1, DWELL, 58, 0);
        x.tell(5, 1);
        // 0 but for 1 at 301, which is 7 times 43: of 43 off by 42/43 at 300, of 7 by 6/7, of wider ones by 1.
        dueAll("85, 86, 97, 98, 99, 100", row(x.widest(85), x.widest(86), x.widest(97), x.widest(98), x.widest(99),
            x.widest(100)), 1, 7, 7, 43, 43, 60);
        for (int top = 2; top < 360; top += 7) {
            CamPieces y = cam(DWELL, top - 1, 0, LINE, 1, 1, LINE, 1, -1);
            y.tell(5, 1);
            due("0 but for 1 at " + top + ", just so", y.widest(0), 1);
            due("0 but for 1 at " + top, y.widest(99), greatestDivisor(top));
        }
    }

    /** The greatest step by which an angle is the end of a line. */
    private static int greatestDivisor(int angle) {
        int step = 60;
        while (angle % step != 0) step--;
        return step;
    }
}
