import java.util.ArrayList;
import java.util.Arrays;
import java.util.List;
import java.util.regex.Matcher;
import java.util.regex.Pattern;

/**
 * The document said once more, as plainly and slowly as it goes: fractions of any size, each "least", "greatest",
 * "fewest" by trying all. It shares no way of reckoning with CamPieces, so that both err alike by chance alone.
 */
final class SlowCam {
    private static final long NO = Long.MIN_VALUE;
    private static final long[][] SHARES = {
        {0}, {0, 1}, {0, 0, 1}, {0, 2, -1}, {0, 0, 3, -2}, {0, 0, 0, 10, -15, 6},
    };
    private static final String[] WORDS = {"dwell", "line", "start", "stop", "cubic", "quintic"};
    private static final int[] LEAST = {1, 1, 0, 0, 0, 1}, MOST = {999, 20, 99, 9999, 30, 1000};

    private record Piece(int kind, int length, int rise) { }

    /** What is seen at an angle from a side. */
    private record Sight(int angle, int side, Frac lift, Frac slope, Frac bend) { }

    private List<Piece> pieces = new ArrayList<>();
    private int[] settings = {100, 1, 1, 10, 1, 100};
    private List<Piece> imagePieces = null;
    private int[] imageSettings = null;
    private final StringBuilder tape = new StringBuilder();
    private int cause = -5;
    private final long[][] lists = new long[4][];
    private List<Sight> sights = null;
    private Sight[] sightsByPlace = null;

    private void changed() {
        sights = null;
    }

    // ---- pieces

    private static boolean may(Piece p) {
        if (p.kind < 0 || p.kind > 5 || p.length < 1 || p.length > 360 || Math.abs((long) p.rise) > 99) return false;
        return p.kind == 0 ? p.rise == 0 : p.rise != 0;
    }

    private static long total(List<Piece> some) {
        return some.stream().mapToLong(Piece::length).sum();
    }

    private int rises(int before) {
        return pieces.subList(0, before).stream().mapToInt(Piece::rise).sum();
    }

    private int total() {
        return (int) total(pieces);
    }

    private boolean closed() {
        return total() == 360 && rises(pieces.size()) == 0;
    }

    private boolean has(int piece) {
        return piece >= 0 && piece < pieces.size();
    }

    int piece(int kind, int length, int rise) {
        Piece p = new Piece(kind, length, rise);
        if (kind < 0 || kind > 5) return -1;
        if (!may(p)) return -2;
        if (pieces.size() == 12) return -4;
        if (total() + length > 360) return -3;
        pieces.add(p);
        changed();
        return pieces.size() - 1;
    }

    int drop() {
        if (pieces.isEmpty()) return -3;
        pieces.remove(pieces.size() - 1);
        changed();
        return pieces.size();
    }

    int put(int piece, int what, int v) {
        if (!has(piece) || what < 0 || what > 2) return -999;
        Piece p = pieces.get(piece);
        Piece q = what == 0 ? new Piece(v, p.length, p.rise)
            : what == 1 ? new Piece(p.kind, v, p.rise) : new Piece(p.kind, p.length, v);
        List<Piece> then = new ArrayList<>(pieces);
        then.set(piece, q);
        if (!may(q) || total(then) > 360) return -999;
        pieces = then;
        changed();
        return what == 0 ? p.kind : what == 1 ? p.length : p.rise;
    }

    int of(int piece, int what) {
        if (!has(piece)) return -9999;
        Piece p = pieces.get(piece);
        switch (what) {
            case 0: return p.kind;
            case 1: return p.length;
            case 2: return p.rise;
            case 3: return (int) total(pieces.subList(0, piece));
            case 4: return rises(piece);
            default: return -9999;
        }
    }

    int tell(int what, int v) {
        if (what < 0 || what > 5) return -1;
        if (v < LEAST[what] || v > MOST[what]) return -2;
        int was = settings[what];
        settings[what] = v;
        return was;
    }

    int told(int what) {
        if (what >= 0 && what <= 5) return settings[what];
        if (what == 6) return pieces.size();
        if (what == 7) return total();
        if (what == 8) return closed() ? 1 : 0;
        return what == 9 ? tape.length() : -1;
    }

    int mirror() {
        List<Piece> then = new ArrayList<>();
        for (Piece p : pieces) {
            int kind = p.kind == 2 ? 3 : p.kind == 3 ? 2 : p.kind;
            then.add(0, new Piece(kind, p.length, -p.rise));
        }
        pieces = then;
        changed();
        return total();
    }

    int alike(int piece) {
        return has(piece) ? (int) pieces.stream().filter(pieces.get(piece)::equals).count() : -1;
    }

    int unlike(int k) {
        List<Piece> unlike = pieces.stream().distinct().toList();
        if (k == -1) return unlike.size();
        return k >= 0 && k < unlike.size() ? pieces.indexOf(unlike.get(k)) : -1;
    }

    int steepestPiece() {
        Frac best = Frac.of(-1);
        int which = -5;
        for (int k = 0; k < pieces.size(); k++) {
            Frac steep = Frac.of(Math.abs(pieces.get(k).rise), pieces.get(k).length);
            if (steep.compareTo(best) > 0) {
                best = steep;
                which = k;
            }
        }
        return which;
    }

    // ---- as it is

    private static Frac share(int kind, Frac u, int derivative) {
        Frac sum = Frac.ZERO, power = Frac.of(1);
        for (int i = derivative; i < SHARES[kind].length; i++) {
            long factor = SHARES[kind][i];
            for (int d = 0; d < derivative; d++) factor *= i - d;
            sum = sum.plus(power.times(factor));
            power = power.times(u);
        }
        return sum;
    }

    private Sight sight(int angle, int side, int k, int step) {
        Piece p = pieces.get(k);
        Frac u = Frac.of(step, p.length);
        Frac lift = share(p.kind, u, 0).times(p.rise).plus(Frac.of(rises(k)));
        Frac slope = share(p.kind, u, 1).times(Frac.of(p.rise, p.length));
        Frac bend = share(p.kind, u, 2).times(Frac.of(p.rise, (long) p.length * p.length));
        return new Sight(angle, side, lift, slope, bend);
    }

    private Sight sight(int angle, int side) {
        sights();
        boolean mayBe = angle >= 0 && angle <= total() && side >= 0 && side <= 1;
        return mayBe ? sightsByPlace[2 * angle + side] : null;
    }

    private List<Sight> sights() {
        if (sights != null) return sights;
        List<Sight> all = new ArrayList<>();
        Sight[] byPlace = new Sight[2 * total() + 2];
        int n = pieces.size();
        for (int angle = 0; n > 0 && angle <= total(); angle++) {
            for (int side = 0; side < 2; side++) {
                Sight s = null;
                int begin = 0;
                for (int k = 0; k < n; k++) {
                    int step = angle - begin, length = pieces.get(k).length;
                    boolean lies = step > 0 && step < length;
                    if (lies || side == 0 && step == length || side == 1 && step == 0) s = sight(angle, side, k, step);
                    begin += length;
                }
                if (s == null && closed()) {
                    s = angle == 0 ? sight(0, 0, n - 1, pieces.get(n - 1).length) : sight(angle, 1, 0, 0);
                    s = new Sight(s.angle, s.side, Frac.ZERO, s.slope, s.bend);
                }
                if (s != null) all.add(s);
                byPlace[2 * angle + side] = s;
            }
        }
        sights = all;
        sightsByPlace = byPlace;
        return all;
    }

    private static boolean isPart(int part) {
        return part == 0 || part == 1;
    }

    long at(int angle, int side, int what, int part) {
        Sight s = sight(angle, side);
        if (s == null || what < 0 || what > 2 || !isPart(part)) return NO;
        return (what == 0 ? s.lift : what == 1 ? s.slope : s.bend).part(part);
    }

    private boolean hasJoin(int join) {
        return join == 0 ? closed() : has(join);
    }

    private Frac jump(int join, int what) {
        int angle = (int) total(pieces.subList(0, join));
        Sight before = sight(angle, 0), behind = sight(angle, 1);
        return what == 0 ? behind.slope.minus(before.slope) : behind.bend.minus(before.bend);
    }

    long jump(int join, int what, int part) {
        return hasJoin(join) && isPart(what) && isPart(part) ? jump(join, what).part(part) : NO;
    }

    int join(int join) {
        if (!hasJoin(join)) return -1;
        return jump(join, 0).signum() != 0 ? 0 : jump(join, 1).signum() != 0 ? 1 : 2;
    }

    int joins(int what) {
        if (what < 0 || what > 2) return -1;
        int bits = 0;
        for (int k = 0; k < 12; k++) {
            if (join(k) == what) bits += 1 << k;
        }
        return bits;
    }

    int extreme(int what) {
        if (!isPart(what)) return -1;
        Sight best = null;
        for (Sight s : sights()) {
            int more = best == null ? 1 : s.lift.compareTo(best.lift);
            if (what == 0 ? more > 0 : best == null || more < 0) best = s;
        }
        return best == null ? -5 : best.angle;
    }

    private Frac reach(Sight s, int radius) {
        return s.lift.plus(Frac.of(radius));
    }

    private Frac curve(Sight s, int radius) {
        return reach(s, radius).plus(s.bend.times(57 * 57));
    }

    private Frac pressure(Sight s, int radius) {
        Frac reach = reach(s, radius);
        return reach.signum() > 0 ? s.slope.times(57).by(reach) : null;
    }

    private Frac force(Sight s, int stiff, int preload, int speed) {
        long inertia = (long) settings[1] * speed * speed * 57 * 57;
        return Frac.of(preload).plus(s.lift.times(stiff)).plus(s.bend.times(inertia));
    }

    private Frac force(Sight s) {
        return force(s, settings[2], settings[3], settings[4]);
    }

    long curve(int angle, int side, int part) {
        Sight s = sight(angle, side);
        return s == null || !isPart(part) ? NO : curve(s, settings[0]).part(part);
    }

    long pressure(int angle, int side, int part) {
        Sight s = sight(angle, side);
        if (s == null || !isPart(part) || pressure(s, settings[0]) == null) return NO;
        return pressure(s, settings[0]).part(part);
    }

    long force(int angle, int side, int part) {
        Sight s = sight(angle, side);
        return s == null || !isPart(part) ? NO : force(s).part(part);
    }

    int count(int what) {
        if (!isPart(what)) return -1;
        return (int) sights().stream()
            .filter(s -> (what == 0 ? curve(s, settings[0]) : force(s)).signum() <= 0)
            .mapToInt(Sight::angle).distinct().count();
    }

    // ---- in thought

    int leastRadius() {
        for (int radius = 1; radius <= 999; radius++) {
            int r = radius;
            if (sights().stream().allMatch(s -> curve(s, r).signum() > 0)) return r;
        }
        return -5;
    }

    int steepest() {
        Frac best = null;
        int angle = -5;
        for (Sight s : sights()) {
            Frac pressure = pressure(s, settings[0]);
            if (pressure == null || best != null && pressure.abs().compareTo(best) <= 0) continue;
            best = pressure.abs();
            angle = s.angle;
        }
        return angle;
    }

    int gentle(int n) {
        if (n < 0 || n > 999) return -2;
        Frac most = Frac.of(n, 100);
        for (int radius = 1; radius <= 999; radius++) {
            boolean isGentle = true;
            for (Sight s : sights()) {
                Frac pressure = pressure(s, radius);
                isGentle = pressure != null && pressure.abs().compareTo(most) <= 0;
                if (!isGentle) break;
            }
            if (isGentle) return radius;
        }
        return -5;
    }

    int floating() {
        for (Sight s : sights()) {
            if (force(s).signum() <= 0) return s.angle;
        }
        return -5;
    }

    private boolean floatsNowhere(int stiff, int preload, int speed) {
        return sights().stream().allMatch(s -> force(s, stiff, preload, speed).signum() > 0);
    }

    int leastPreload() {
        // FORCE grows with PRELOAD everywhere: it is enough to halve.
        int low = 0, high = 10000;
        while (low < high) {
            int middle = (low + high) / 2;
            if (floatsNowhere(settings[2], middle, settings[4])) high = middle;
            else low = middle + 1;
        }
        return low == 10000 ? -5 : low;
    }

    int leastStiff() {
        for (int stiff = 0; stiff <= 99; stiff++) {
            if (floatsNowhere(stiff, settings[3], settings[4])) return stiff;
        }
        return -5;
    }

    int fastest() {
        for (int speed = 30; speed >= 0; speed--) {
            if (floatsNowhere(settings[2], settings[3], speed)) return speed;
        }
        return -5;
    }

    int smoothed() {
        int best = -5;
        SlowCam other = new SlowCam();
        for (int bits = 0; bits < 1 << pieces.size(); bits++) {
            if (best >= 0 && Integer.bitCount(bits) >= Integer.bitCount(best)) continue;
            other.pieces = new ArrayList<>(pieces);
            boolean may = true;
            for (int k = 0; k < pieces.size(); k++) {
                Piece p = pieces.get(k);
                if ((bits >> k & 1) == 0) continue;
                may &= p.kind >= 1 && p.kind <= 4;
                other.pieces.set(k, new Piece(5, p.length, p.rise));
            }
            if (may && other.isWithoutCorner()) best = bits;
        }
        return best;
    }

    private boolean isWithoutCorner() {
        int n = pieces.size();
        for (int k = closed() ? 0 : 1; k < n; k++) {
            int before = (k + n - 1) % n;
            Frac slopeBefore = sight(0, 0, before, pieces.get(before).length).slope;
            if (slopeBefore.compareTo(sight(0, 0, k, 0).slope) != 0) return false;
        }
        return true;
    }

    // ---- samples

    private long sampleOf(Frac lift) {
        return lift.times(settings[5]).plus(Frac.of(1, 2)).floor();
    }

    long sample(int angle) {
        Sight s = sight(angle, 0);
        if (s == null) s = sight(angle, 1);
        return s == null ? NO : sampleOf(s.lift);
    }

    private Frac error(int step) {
        long[] samples = new long[total() + 1];
        for (Sight s : sights()) samples[s.angle] = sampleOf(s.lift);
        Frac most = Frac.ZERO;
        for (int from = 0; from < total(); from += step) {
            int to = Math.min(from + step, total());
            for (int angle = from; angle <= to; angle++) {
                Frac line = Frac.of(samples[from]).plus(
                    Frac.of(samples[to] - samples[from]).times(Frac.of(angle - from, to - from)));
                Frac off = line.minus(Frac.of(samples[angle])).abs();
                if (off.compareTo(most) > 0) most = off;
            }
        }
        return most;
    }

    long error(int step, int part) {
        if (step < 1 || step > 60 || !isPart(part) || pieces.isEmpty()) return NO;
        return error(step).part(part);
    }

    int widest(int e) {
        if (e < 0 || e > 9999) return -2;
        if (pieces.isEmpty()) return -3;
        for (int step = 60; step > 0; step--) {
            if (error(step).compareTo(Frac.of(e, 100)) <= 0) return step;
        }
        return -5;
    }

    int lay(int list, int i, int angle, int step, int n) {
        if (list < 0 || list > 3) return -1;
        if (lists[list] == null) return -11;
        if (sample(angle) == NO || step < 1 || step > 60 || n < 0 || n > 30) return -2;
        if (n > 0 && sample(angle + (n - 1) * step) == NO) return -2;
        boolean all = true;
        for (int k = 0; k < n; k++) {
            long place = (long) i + k;
            if (i >= 0 && place < lists[list].length) lists[list][(int) place] = sample(angle + k * step);
            else all = false;
        }
        return all ? n : -13;
    }

    int seen(int list, int i, int n, int piece) {
        if (list < 0 || list > 3 || !has(piece)) return -1;
        if (lists[list] == null) return -11;
        Piece p = pieces.get(piece);
        if (n < 1 || n > 30 || n > p.length + 1) return -2;
        if (i < 0 || (long) i + n > lists[list].length) return -13;
        int bits = 0;
        for (int kind = 0; kind < 6; kind++) {
            boolean so = true;
            for (int step = 0; step < n; step++) {
                Frac lift = share(kind, Frac.of(step, p.length), 0).times(p.rise).plus(Frac.of(rises(piece)));
                so &= lists[list][i + step] == sampleOf(lift);
            }
            if (so) bits += 1 << kind;
        }
        return bits;
    }

    // ---- cams as texts

    int feed(int letter) {
        if (letter < 1 || letter > 127) return -2;
        if (tape.length() == 120) return -4;
        tape.append((char) letter);
        return tape.length();
    }

    int clear() {
        int n = tape.length();
        tape.setLength(0);
        return n;
    }

    private int fault(int place, int why, int length) {
        cause = place == length ? 5 : why;
        return -100 - place;
    }

    /** What stands at a place by a pattern; it is always found, perhaps empty. */
    private static String match(String pattern, String text, int place) {
        Matcher m = Pattern.compile(pattern).matcher(text).region(place, text.length());
        if (!m.lookingAt()) throw new IllegalStateException(pattern);
        return m.group();
    }

    int cam() {
        String text = tape.toString();
        clear();
        List<Piece> read = new ArrayList<>();
        int place = 0, end = text.length();
        while (true) {
            String word = match("[a-z]*", text, place);
            int kind = Arrays.asList(WORDS).indexOf(word);
            if (kind < 0) return fault(place, 1, end);
            place += word.length();
            if (!text.startsWith(" ", place)) return fault(place, 4, end);
            place++;
            String figures = match("[0-9]{0,3}", text, place);
            int length = figures.isEmpty() ? 0 : Integer.parseInt(figures);
            if (length == 0 || length > 360) return fault(place, 2, end);
            place += figures.length();
            int rise = 0;
            if (kind > 0) {
                if (!text.startsWith(" ", place)) return fault(place, 4, end);
                place++;
                String number = match("-?[0-9]{0,2}", text, place);
                rise = number.isEmpty() || number.equals("-") ? 0 : Integer.parseInt(number);
                if (rise == 0) return fault(place, 3, end);
                place += number.length();
            }
            read.add(new Piece(kind, length, rise));
            if (place == end) break;
            if (!text.startsWith(";", place)) return fault(place, 4, end);
            place++;
        }
        for (int k = 0; k < read.size(); k++) {
            boolean many = k == 12, wide = total(read.subList(0, k + 1)) > 360;
            if (!many && !wide) continue;
            cause = many ? 6 : 7;
            return -300 - k;
        }
        pieces = read;
        changed();
        return pieces.size();
    }

    int cause() {
        return cause;
    }

    // ---- rows, the image

    int list(int list, int n) {
        if (list < 0 || list > 3) return -1;
        if (n > 30) return -2;
        if (n < 0) return -14;
        lists[list] = new long[n];
        return 1;
    }

    int set(int list, int i, long v) {
        if (list < 0 || list > 3) return -1;
        if (lists[list] == null) return -11;
        if (i < 0 || i >= lists[list].length) return -13;
        lists[list][i] = v;
        return 1;
    }

    long get(int list, int i) {
        boolean there = list >= 0 && list <= 3 && lists[list] != null && i >= 0 && i < lists[list].length;
        return there ? lists[list][i] : NO;
    }

    int image() {
        imagePieces = new ArrayList<>(pieces);
        imageSettings = settings.clone();
        return pieces.size();
    }

    int undo() {
        if (imagePieces == null) return -3;
        pieces = new ArrayList<>(imagePieces);
        settings = imageSettings.clone();
        changed();
        return pieces.size();
    }
}
