/** Each sentence about THE TAPE and cams as texts: what is still one, the first byte with which none goes on, why. */
public final class EdgeTextTests extends Edge {
    private static final int A_WORD = 1, A_LONG = 2, A_RISE = 3, A_BYTE = 4, THE_END = 5, PIECE_13 = 6, TOTAL = 7;

    private EdgeTextTests() {
        super("edges of texts");
    }

    public static void main(String[] args) {
        EdgeTextTests t = new EdgeTextTests();
        t.bytes(); t.tapeIsFull(); t.tapeIsCleared(); t.tapeIsEmptyBehind(); t.othersDontReadIt();
        t.oneOrMore(); t.words(); t.wordsThatAreNone(); t.lettersOfWords(); t.wordAtTheEnd();
        t.figuresOfL(); t.longsThatMayNotBe(); t.figuresOfR(); t.risesThatMayNotBe(); t.minusAlone(); t.noFigure();
        t.blanks(); t.semicolons(); t.dwellsHaveNoR(); t.emptyTape(); t.endsTooEarly(); t.anyByteWrong(); t.firstFromTheLeft();
        t.thirteen(); t.totalAbove(); t.whicheverIsFirst(); t.faultsAheadOfUnfit(); t.unfitChangesNothing(); t.othersGo();
        t.settingsStay(); t.fullTapes(); t.causeOfTheLatest(); t.causeIsLeft();
        t.end();
    }

    private void dueCam(CamPieces x, String text, int want) {
        feed(x, text);
        due("cam of '" + text + "'", x.cam(), want);
        due("tape behind '" + text + "'", x.told(9), 0);
    }

    private void dueRefused(String text, int want, int cause) {
        CamPieces x = cam(LINE, 300, 5);
        dueCam(x, text, want);
        due("cause of '" + text + "'", x.cause(), cause);
        duePieces("pieces behind '" + text + "'", x, LINE, 300, 5);
    }

    private void dueRead(String text, long... parts) {
        CamPieces x = cam(LINE, 300, 5);
        dueCam(x, text, parts.length / 3);
        due("cause of '" + text + "'", x.cause(), THERE_IS_NONE);
        duePieces("pieces of '" + text + "'", x, parts);
    }

    private static String times(int n, String piece) {
        StringBuilder text = new StringBuilder(piece);
        for (int i = 1; i < n; i++) text.append(';').append(piece);
        return text.toString();
    }

    // ---- the tape

    private void bytes() {
        says("A byte (1 .. 127) comes behind THE TAPE's: how many it has. BAD");
        CamPieces x = new CamPieces();
        due("1", x.feed(1), 1);
        due("127", x.feed(127), 2);
        for (int letter : new int[] {0, 128, -1, 256 + 'a', LOW, HIGH}) due("byte " + letter, x.feed(letter), BAD);
        due("two still", x.told(9), 2);
        for (int letter = 1; letter <= 118; letter++) due("byte " + letter, x.feed(letter), letter + 2);
    }

    private void tapeIsFull() {
        says("THE TAPE (120 bytes at most)");
        CamPieces x = new CamPieces();
        for (int i = 1; i <= 119; i++) x.feed('x');
        due("120", x.feed('x'), 120);
        due("121", x.feed('x'), FULL);
        due("121, BAD ahead of FULL", x.feed(0), BAD);
        due("121, BAD ahead of FULL", x.feed(128), BAD);
        due("120 still", x.told(9), 120);
        due("cleared", x.clear(), 120);
        due("there is room again", x.feed('x'), 1);
    }

    private void tapeIsCleared() {
        says("THE TAPE is empty then: how many bytes it had");
        CamPieces x = new CamPieces();
        due("empty", x.clear(), 0);
        x.feed('d');
        due("one", x.clear(), 1);
        due("none", x.told(9), 0);
        due("empty again", x.clear(), 0);
        dueCam(x, "line 1 1", 1);
        due("cleared by cam()", x.clear(), 0);
    }

    private void tapeIsEmptyBehind() {
        says("THE TAPE is empty behind each call that reads it");
        CamPieces x = new CamPieces();
        dueCam(x, "dwell 5", 1);
        due("an empty one", x.cam(), -100);
        due("still empty", x.told(9), 0);
        dueCam(x, "dwell 5;", -108);
        dueCam(x, "dwell 360;dwell 1", -301);
        due("fed anew", x.feed('l'), 1);
        dueCam(x, "line 5 5", 1);
    }

    private void othersDontReadIt() {
        says("each call that reads it");
        CamPieces x = cam(LINE, 5, 5);
        feed(x, "dwell 7");
        x.image();
        x.undo();
        x.mirror();
        x.put(0, 1, 9);
        x.drop();
        x.piece(CUBIC, 9, 9);
        x.list(0, 9);
        x.cause();
        due("seven bytes still", x.told(9), 7);
        due("cam", x.cam(), 1);
        duePieces("as they were fed", x, DWELL, 7, 0);
    }

    // ---- texts

    private void oneOrMore() {
        says("PIECES, one or more, parted by ;");
        dueRead("dwell 1", DWELL, 1, 0);
        dueRead("dwell 1;line 1 1", DWELL, 1, 0, LINE, 1, 1);
        CamPieces x = new CamPieces();
        dueCam(x, times(12, "line 1 1"), 12);
        due("piece 11", x.of(11, 4), 11);
        dueRefused("dwell 1,line 1 1", -107, A_BYTE);
        dueRefused("dwell 1line 1 1", -107, A_BYTE);
        dueRefused("line 1 1 line 1 1", -108, A_BYTE);
    }

    private void words() {
        says("dwell L, or line L R, start L R, stop L R, cubic L R, quintic L R");
        for (int kind = 0; kind <= 5; kind++) {
            if (kind == 0) dueRead("dwell 12", DWELL, 12, 0);
            else dueRead(WORDS[kind] + " 12 -3", kind, 12, -3);
        }
        dueRead("quintic 1 1;cubic 2 2;stop 3 3;start 4 4;line 5 5;dwell 6", QUINTIC, 1, 1, CUBIC, 2, 2, STOP, 3, 3,
            START, 4, 4, LINE, 5, 5, DWELL, 6, 0);
    }

    private void wordsThatAreNone() {
        says("FAULT: of a word that is none of these, where it begins (an empty one, too)");
        for (String word : WORDS) {
            dueRefused(word + "s 5 5", -100, A_WORD);
            dueRefused("a" + word + " 5 5", -100, A_WORD);
            dueRefused(word.substring(0, word.length() - 1) + " 5 5", -100, A_WORD);
            dueRefused(word.substring(1) + " 5 5", -100, A_WORD);
            dueRefused("dwell 5;" + word + word + " 5 5", -108, A_WORD);
        }
        for (String word : WORDS) {
            for (int place = 0; place < word.length(); place++) {
                String begin = word.substring(0, place), rest = word.substring(place + 1);
                dueRefused(begin + "x" + rest + " 5 5", -100, A_WORD);
                dueRefused(begin + (char) (word.charAt(place) + 1) + rest + " 5 5", -100, A_WORD);
                dueRefused("dwell 5;" + begin + rest + " 5 5", -108, A_WORD);
            }
        }
        for (String none : new String[] {"lina 5 5", "star 5 5", "stopp 5 5", "startstop 5 5", "cam 5 5", "z 5"}) {
            dueRefused(none, -100, A_WORD);
        }
        for (String none : new String[] {" dwell 5", "5", ";", " ", "-5", "{", "`", "Line 5 5"}) {
            dueRefused(none, -100, A_WORD);
            dueRefused("dwell 5;" + none, -108, A_WORD);
        }
    }

    private void lettersOfWords() {
        says("A word is as many letters a .. z as stand there");
        dueRefused("linea 5 5", -100, A_WORD);
        dueRefused("linez 5 5", -100, A_WORD);
        dueRefused("line` 5 5", -104, A_BYTE);
        dueRefused("line{ 5 5", -104, A_BYTE);
        dueRefused("lineA 5 5", -104, A_BYTE);
        dueRefused("lineZ 5 5", -104, A_BYTE);
        dueRefused("line5 5", -104, A_BYTE);
        dueRefused("line; 5 5", -104, A_BYTE);
        dueRefused("line\u00015 5", -104, A_BYTE);
        dueRefused("line\u007f5 5", -104, A_BYTE);
        dueRefused("liNe 5 5", -100, A_WORD);
    }

    private void wordAtTheEnd() {
        says("A word that is none of these is the FAULT where it begins, also if THE TAPE ends in it");
        for (String part : new String[] {"d", "dw", "dwel", "lin", "star", "sto", "cubi", "quinti", "q", "x"}) {
            dueRefused(part, -100, A_WORD);
            dueRefused("dwell 5;" + part, -108, A_WORD);
        }
        dueRefused("abcdefghijklmnopqrstuvwxyz".repeat(4) + "abcdefghijklmnop", -100, A_WORD);
    }

    private void figuresOfL() {
        says("L: 1 to 3 figures (no more are taken; they are looked at ahead of the byte behind)");
        dueRead("dwell 1", DWELL, 1, 0);
        dueRead("dwell 12", DWELL, 12, 0);
        dueRead("dwell 123", DWELL, 123, 0);
        dueRead("dwell 001", DWELL, 1, 0);
        dueRead("dwell 012", DWELL, 12, 0);
        dueRead("line 007 7", LINE, 7, 7);
        dueRefused("dwell 1234", -109, A_BYTE);
        dueRefused("dwell 0012", -109, A_BYTE);
        dueRefused("line 1234 5", -108, A_BYTE);
        dueRefused("line 3601 5", -108, A_BYTE);
        dueRefused("line 3611 5", -105, A_LONG);
        dueRefused("line 0001 5", -105, A_LONG);
    }

    private void longsThatMayNotBe() {
        says("FAULT: .. of a L .. that may not be (no figure in it, too ..), where it begins");
        dueRead("dwell 360", DWELL, 360, 0);
        for (String none : new String[] {"0", "00", "000", "361", "400", "999", "361x", "0;", "-5", "+5", "x", " 5", ";", "/", ":"}) {
            dueRefused("dwell " + none, -106, A_LONG);
            dueRefused("dwell 5;stop " + none, -113, A_LONG);
        }
    }

    private void figuresOfR() {
        says("R: perhaps -, and 1 or 2 figures (no more are taken; they are looked at ahead of the byte behind)");
        dueRead("line 5 1", LINE, 5, 1);
        dueRead("line 5 99", LINE, 5, 99);
        dueRead("line 5 -1", LINE, 5, -1);
        dueRead("line 5 -99", LINE, 5, -99);
        dueRead("line 5 05", LINE, 5, 5);
        dueRead("line 5 -05", LINE, 5, -5);
        dueRefused("line 5 100", -109, A_BYTE);
        dueRefused("line 5 -100", -110, A_BYTE);
        dueRefused("line 5 050", -109, A_BYTE);
        dueRefused("line 5 1x", -108, A_BYTE);
        dueRefused("line 5 12-", -109, A_BYTE);
    }

    private void risesThatMayNotBe() {
        says("A R that may not be .. is the FAULT where it begins, with the cause 3; a third figure of it is a byte that can't stand");
        for (int kind = 1; kind <= 5; kind++) {
            String begin = WORDS[kind] + " 5 ";
            int at = -100 - begin.length();
            for (String none : new String[] {"0", "00", "-0", "-00", "000", "001", "-000", "0;", "-0x", "+5", " 5", "x", ";", "/", ":"}) {
                dueRefused(begin + none, at, A_RISE);
            }
            dueRefused(begin + "990", at - 2, A_BYTE);
            dueRefused(begin + "-990", at - 3, A_BYTE);
        }
    }

    private void minusAlone() {
        says("also a - without a figure, is the FAULT where it begins, with the cause 3 (also a - alone at the text's end)");
        dueRefused("line 5 -", -107, A_RISE);
        dueRefused("line 5 -;dwell 5", -107, A_RISE);
        dueRefused("line 5 - 5", -107, A_RISE);
        dueRefused("line 5 --5", -107, A_RISE);
        dueRefused("line 5 -x", -107, A_RISE);
        dueRefused("dwell 5;cubic 7 -", -116, A_RISE);
    }

    private void noFigure() {
        says("(no figure in it, too); 5 the FAULT is the length");
        dueRefused("dwell ", -106, THE_END);
        dueRefused("dwell  ", -106, A_LONG);
        dueRefused("line 5 ", -107, THE_END);
        dueRefused("line 5  ", -107, A_RISE);
        dueRefused("dwell 5;", -108, THE_END);
        dueRefused("dwell 5; ", -108, A_WORD);
    }

    private void blanks() {
        says("one blank ahead of each");
        dueRefused("dwell", -105, THE_END);
        dueRefused("dwell5", -105, A_BYTE);
        dueRefused("dwell-5", -105, A_BYTE);
        dueRefused("dwell\t5", -105, A_BYTE);
        dueRefused("dwell  5", -106, A_LONG);
        dueRefused("line 5", -106, THE_END);
        dueRefused("line 5-5", -106, A_BYTE);
        dueRefused("line 5;", -106, A_BYTE);
        dueRefused("line 5\n5", -106, A_BYTE);
        dueRefused("line 5  5", -107, A_RISE);
        dueRefused("line 5 5 ", -108, A_BYTE);
        dueRefused(" line 5 5", -100, A_WORD);
        dueRefused("dwell 5 ;dwell 5", -107, A_BYTE);
    }

    private void semicolons() {
        says("parted by ;");
        dueRefused(";dwell 5", -100, A_WORD);
        dueRefused("dwell 5;;dwell 5", -108, A_WORD);
        dueRefused("dwell 5;", -108, THE_END);
        dueRefused("dwell 5:dwell 5", -107, A_BYTE);
        dueRefused("line 5 5;", -109, THE_END);
        dueRefused("line 5 5;;", -109, A_WORD);
    }

    private void dwellsHaveNoR() {
        says("dwell L");
        dueRefused("dwell 5 0", -107, A_BYTE);
        dueRefused("dwell 5 5", -107, A_BYTE);
        dueRefused("dwell 5-5", -107, A_BYTE);
        dueRefused("dwell 5 ", -107, A_BYTE);
    }

    private void emptyTape() {
        says("of an empty THE TAPE the FAULT is 0, with the cause 5");
        CamPieces x = new CamPieces();
        dueAll("new", row(x.cam(), x.cause()), -100, THE_END);
        dueRefused("", -100, THE_END);
        dueRefused(" ", -100, A_WORD);
    }

    private void endsTooEarly() {
        says("the length, if it ends too early");
        String text = "line 12 -34;dwell 5";
        int[] cams = {-100, -100, -100, -100, -104, -105, -106, -107, -108, -108, 1, 1, -112, -112, -112, -112, -112, -117,
            -118, 2};
        int[] causes = {5, 1, 1, 1, 5, 5, 5, 5, 5, 3, -5, -5, 5, 1, 1, 1, 1, 5, 5, -5};
        for (int length = 0; length <= text.length(); length++) {
            CamPieces x = new CamPieces();
            dueCam(x, text.substring(0, length), cams[length]);
            due("cause of '" + text.substring(0, length) + "'", x.cause(), causes[length]);
        }
    }

    private void anyByteWrong() {
        says("otherwise the place (from 0) of the first byte with which no such text goes on");
        String text = "line 12 -34;dwell 5";
        int[] faults = {0, 0, 0, 0, 4, 5, 6, 7, 8, 8, 10, 11, 12, 12, 12, 12, 12, 17, 18};
        int[] causes = {1, 1, 1, 1, 4, 2, 4, 4, 3, 3, 4, 4, 1, 1, 1, 1, 1, 4, 2};
        for (char wrong : new char[] {'~', 1, 127}) {
            for (int place = 0; place < text.length(); place++) {
                dueRefused(text.substring(0, place) + wrong + text.substring(place + 1), -100 - faults[place], causes[place]);
            }
            dueRefused(text + wrong, -100 - text.length(), A_BYTE);
        }
    }

    private void firstFromTheLeft() {
        says("FAULT (the first that is met from the left)");
        dueRefused("dwell 0;liner 5 0", -106, A_LONG);
        dueRefused("liner 0 0", -100, A_WORD);
        dueRefused("line 0 0", -105, A_LONG);
        dueRefused("line 5 0,", -107, A_RISE);
        dueRefused("line 361 0,", -105, A_LONG);
        dueRefused("line 5,0,", -106, A_BYTE);
    }

    // ---- unfit

    private void thirteen() {
        says("there is a PIECE by which there would be 13 (cause 6)");
        CamPieces x = new CamPieces();
        dueCam(x, times(12, "dwell 30"), 12);
        due("360", x.told(7), 360);
        dueRefused(times(13, "dwell 1"), -312, PIECE_13);
        dueRefused(times(15, "dwell 1"), -312, PIECE_13);
        dueRefused(times(13, "line 1 9"), -312, PIECE_13);
    }

    private void totalAbove() {
        says("or, if not that, by which TOTAL would be above 360 (7)");
        dueRead("line 359 5;dwell 1", LINE, 359, 5, DWELL, 1, 0);
        dueRefused("line 359 5;dwell 2", -301, TOTAL);
        dueRefused("dwell 360;dwell 1", -301, TOTAL);
        dueRefused("dwell 1;dwell 360", -301, TOTAL);
        dueRefused("dwell 120;dwell 120;dwell 120;dwell 1", -303, TOTAL);
        dueRefused("dwell 360;dwell 360;dwell 360", -301, TOTAL);
        dueRefused("dwell 359;dwell 2;dwell 1", -301, TOTAL);
    }

    private void whicheverIsFirst() {
        says("the first such one (from 0), whichever of both it is by");
        dueRefused(times(12, "dwell 30") + ";dwell 1", -312, PIECE_13);
        dueRefused(times(12, "dwell 1") + ";dwell 360", -312, PIECE_13);
        dueRefused("dwell 360;" + times(12, "dwell 1"), -301, TOTAL);
        dueRefused(times(11, "dwell 1") + ";dwell 350;dwell 1", -311, TOTAL);
        dueRefused(times(11, "dwell 1") + ";dwell 349;dwell 1", -312, PIECE_13);
    }

    private void faultsAheadOfUnfit() {
        says("UNFIT: it is such a text, but");
        dueRefused(times(13, "dwell 1") + ";", -204, THE_END);
        dueRefused(times(13, "dwell 1") + ";x", -204, A_WORD);
        dueRefused("dwell 360;dwell 1;line 5 0", -125, A_RISE);
        dueRefused("dwell 360;dwell 1,", -117, A_BYTE);
    }

    private void unfitChangesNothing() {
        says("-300 less the UNFIT one (nothing is changed then)");
        CamPieces x = cam(LINE, 180, 5, CUBIC, 180, -5);
        x.tell(0, 7);
        dueCam(x, "dwell 360;dwell 1", -301);
        duePieces("pieces", x, LINE, 180, 5, CUBIC, 180, -5);
        dueAll("told", row(x.told(0), x.told(6), x.told(7), x.told(8)), 7, 2, 360, 1);
        dueCam(x, "dwell 5;dwell 0", -114);
        duePieces("pieces", x, LINE, 180, 5, CUBIC, 180, -5);
    }

    private void othersGo() {
        says("THE TAPE is a CAM, whose PIECES these are then (others go): how many");
        CamPieces x = twelve(349, 9, -99);
        dueCam(x, "cubic 360 1", 1);
        dueAll("told", row(x.told(6), x.told(7), x.told(8), x.of(1, 0)), 1, 360, 0, NO_PART);
        dueCam(x, times(12, "dwell 30"), 12);
        dueAll("told", row(x.told(6), x.told(7), x.told(8), x.of(11, 3)), 12, 360, 1, 330);
        dueCam(x, "line 5 -5;stop 6 5", 2);
        duePieces("pieces", x, LINE, 5, -5, STOP, 6, 5);
        due("behind them", x.piece(DWELL, 349, 0), 2);
    }

    private void settingsStay() {
        says("THE TAPE is a CAM, whose PIECES these are then");
        CamPieces x = new CamPieces();
        for (int what = 0; what < 6; what++) x.tell(what, 17);
        x.list(1, 2);
        x.set(1, 1, 5);
        dueCam(x, "line 5 5", 1);
        for (int what = 0; what < 6; what++) due("told " + what, x.told(what), 17);
        due("the list", x.get(1, 1), 5);
        due("no image", x.undo(), STATE);
    }

    private void fullTapes() {
        says("CAM: THE TAPE (120 bytes at most)");
        String text = times(5, "quintic 10 1") + ";" + times(4, "quintic 10 -1");
        CamPieces x = new CamPieces();
        feed(x, text);
        due("bytes", x.told(9), 120);
        due("one more", x.feed(';'), FULL);
        due("cam", x.cam(), 9);
        dueAll("the last", row(x.of(8, 0), x.of(8, 1), x.of(8, 2)), QUINTIC, 10, -1);
        dueRefused(text.substring(0, 119), -218, A_RISE);
        dueRefused(text.substring(0, 119) + "0", -218, A_RISE);
        dueRefused(text.substring(0, 119) + "x", -218, A_RISE);
        dueRefused(times(15, "dwell 1") + ";", -220, THE_END);
        dueRefused(times(14, "dwell 1") + ";dwell 12", -312, PIECE_13);
        dueRefused(times(14, "dwell 1") + ";dwell 1,", -219, A_BYTE);
        dueRefused("dwell 12;" + times(13, "dwell 1") + ";dwell 1", -312, PIECE_13);
        dueRefused("dwell 1;".repeat(14) + "quintic ", -220, THE_END);
    }

    // ---- causes

    private void causeOfTheLatest() {
        says("Of the latest cam() that was refused ..: why: -5 there was none yet; 5 the FAULT is the length; else 1 a word ..");
        CamPieces x = new CamPieces();
        due("none yet", x.cause(), -5);
        dueCam(x, "dwell 5", 1);
        due("none yet, one was read", x.cause(), -5);
        String[] texts = {"x", "dwell x", "line 5 x", "dwell 5,", "dwell 5;", times(13, "dwell 1"), "dwell 360;dwell 1"};
        for (int why = 1; why <= 7; why++) {
            feed(x, texts[why - 1]);
            due("refused", x.cam() < 0 ? 1 : 0, 1);
            due("cause " + why, x.cause(), why);
            due("asked twice", x.cause(), why);
        }
        dueCam(x, "dwell x", -106);
        due("the latest", x.cause(), A_LONG);
    }

    private void causeIsLeft() {
        says("(others, undo() leave it)");
        CamPieces x = cam(LINE, 9, 9);
        x.image();
        dueCam(x, "x", -100);
        x.undo();
        due("undo", x.cause(), 1);
        dueCam(x, "dwell 5", 1);
        due("a cam that was read", x.cause(), 1);
        x.feed(0);
        x.clear();
        x.image();
        x.piece(9, 9, 9);
        x.drop();
        x.drop();
        x.list(0, 99);
        due("others that are refused", x.cause(), 1);
        CamPieces y = new CamPieces();
        due("another object's", y.cause(), -5);
        dueCam(x, "dwell 5;", -108);
        x.image();
        dueCam(x, "dwell 5,", -107);
        x.undo();
        due("not that of the image", x.cause(), A_BYTE);
    }
}
