import java.util.ArrayList;
import java.util.Arrays;
import java.util.List;

/**
 * The document said once more, in the slowest and plainest way and with all that Java offers:
 * a second opinion for OracleTest. Its sheets are true Java rows, so that the machine finds what it finds.
 */
final class Oracle {
    private static final int BAD = -1, FULL = -3, NONE = -4, NULL = -11, CAST = -12, INDEX = -13, SIZE = -14;

    static final class Hung {
        int kind, cam, lag, place;
        String wish = "............";

        Hung like() {
            Hung h = new Hung();
            h.kind = kind;
            h.cam = cam;
            h.lag = lag;
            h.place = place;
            h.wish = wish;
            return h;
        }
    }

    static final class State {
        List<int[]> cams = new ArrayList<>();
        List<Hung> figures = new ArrayList<>();
        int line = 5, way = 0, angle = 0, passed = 0;
        int[] beats = {1, 1, 1, 1, 1, 1, 1, 1, 1, 1, 1, 1};
        int[] hands = {1023, 1023, 1023, 1023};

        State like() {
            State s = new State();
            for (int[] cam : cams) {
                s.cams.add(cam.clone());
            }
            for (Hung h : figures) {
                s.figures.add(h.like());
            }
            s.line = line;
            s.way = way;
            s.angle = angle;
            s.passed = passed;
            s.beats = beats.clone();
            s.hands = hands.clone();
            return s;
        }
    }

    State s = new State();
    private State kept = null;
    String tape = "";
    final Object[] rows = new Object[4];

    private boolean in(int v, int from, int to) {
        return from <= v && v <= to;
    }

    private boolean cams(int cam) {
        return in(cam, 0, s.cams.size() - 1);
    }

    private boolean figs(int f) {
        return in(f, 0, s.figures.size() - 1);
    }

    private int ahead(int angle) {
        return s.way == 0 ? (angle + 11) % 12 : (angle + 1) % 12;
    }

    private int next(int angle) {
        return s.way == 0 ? (angle + 1) % 12 : (angle + 11) % 12;
    }

    int type(long w, int n) {
        if (n < 1 || n > 8) {
            return BAD;
        }
        String more = "";
        for (int k = 0; k < n; k++) {
            int b = (int) (w & 255);
            if (b < 32 || b > 126) {
                return BAD;
            }
            more = (char) b + more;
            w >>= 8;
        }
        if ((tape + more).length() > 40) {
            return FULL;
        }
        tape += more;
        return tape.length();
    }

    /** 0, or a fault. */
    private int fault(String signs) {
        int found = 0;
        for (int place = 0; place < tape.length(); place++) {
            char c = tape.charAt(place);
            if (c != ' ') {
                if (found == 12 || signs.indexOf(c) < 0) {
                    return -20 - place;
                }
                found++;
            }
        }
        return found == 12 ? 0 : -20 - tape.length();
    }

    int cam() {
        int fault = fault("0123456789");
        String text = tape.replace(" ", "");
        tape = "";
        if (fault != 0) {
            return fault;
        }
        if (s.cams.size() == 6) {
            return FULL;
        }
        s.cams.add(text.chars().map(c -> c - '0').toArray());
        return s.cams.size() - 1;
    }

    int cut(int cam, int angle, int v) {
        if (!cams(cam) || !in(angle, 0, 11) || !in(v, 0, 9)) {
            return BAD;
        }
        int was = s.cams.get(cam)[angle];
        s.cams.get(cam)[angle] = v;
        return was;
    }

    int told(int cam, int angle) {
        return cams(cam) && in(angle, 0, 11) ? s.cams.get(cam)[angle] : BAD;
    }

    int figure(int kind, int cam, int lag, int place) {
        if (!in(kind, 0, 3) || !cams(cam) || !in(lag, 0, 11) || !in(place, 0, 3)) {
            return BAD;
        }
        if (s.figures.size() == 5) {
            return FULL;
        }
        Hung h = new Hung();
        h.kind = kind;
        h.cam = cam;
        h.lag = lag;
        h.place = place;
        s.figures.add(h);
        return s.figures.size() - 1;
    }

    int set(int figure, int what, int v) {
        if (!figs(figure) || !in(what, 0, 3)) {
            return BAD;
        }
        int[] counts = {4, s.cams.size(), 12, 4};
        if (v < 0 || v >= counts[what]) {
            return BAD;
        }
        Hung h = s.figures.get(figure);
        int[] was = {h.kind, h.cam, h.lag, h.place};
        int[] is = was.clone();
        is[what] = v;
        h.kind = is[0];
        h.cam = is[1];
        h.lag = is[2];
        h.place = is[3];
        return was[what];
    }

    int wish(int figure) {
        if (!figs(figure)) {
            return BAD;
        }
        int fault = fault("ud.");
        String text = tape.replace(" ", "");
        tape = "";
        if (fault != 0) {
            return fault;
        }
        s.figures.get(figure).wish = text;
        return text.replace(".", "").length();
    }

    int line(int v) {
        if (!in(v, 1, 9)) {
            return BAD;
        }
        int was = s.line;
        s.line = v;
        return was;
    }

    int way(int v) {
        if (!in(v, 0, 1)) {
            return BAD;
        }
        int was = s.way;
        s.way = v;
        return was;
    }

    int count(int what) {
        if (!in(what, 0, 5)) {
            return BAD;
        }
        int up = 0;
        for (int f = 0; f < s.figures.size(); f++) {
            up += isUp(f, s.angle) ? 1 << f : 0;
        }
        return new int[] {s.cams.size(), s.figures.size(), s.angle, s.way, s.passed, up}[what];
    }

    private int hair(Hung h, int angle) {
        return s.cams.get(h.cam)[(angle + h.lag) % 12];
    }

    private int heightAt(int figure, int angle) {
        Hung h = s.figures.get(figure);
        int hair = hair(h, angle);
        if (h.kind == 0) {
            return hair;
        }
        if (h.kind == 1) {
            return hair * 2;
        }
        if (h.kind == 3) {
            return hair * 2 + (hair > hair(h, ahead(angle)) ? 1 : 0);
        }
        // Its own height ahead less 1, until nothing changes any more.
        int[] heights = new int[12];
        for (int again = 0; again < 40; again++) {
            for (int a = 0; a < 12; a++) {
                heights[a] = Math.max(hair(h, a), heights[ahead(a)] - 1);
            }
        }
        return heights[angle];
    }

    private boolean isUp(int figure, int angle) {
        return heightAt(figure, angle) >= s.line;
    }

    int height(int figure, int angle) {
        return figs(figure) && in(angle, 0, 11) ? heightAt(figure, angle) : BAD;
    }

    int ups(int figure) {
        if (!figs(figure)) {
            return BAD;
        }
        int set = 0;
        for (int angle = 0; angle < 12; angle++) {
            set += isUp(figure, angle) ? 1 << angle : 0;
        }
        return set;
    }

    private boolean isStrike(int a, int b, int angle) {
        return s.figures.get(a).place == s.figures.get(b).place && isUp(a, angle) && isUp(b, angle)
            && !(isUp(a, ahead(angle)) && isUp(b, ahead(angle)));
    }

    int turn(int n) {
        if (!in(n, 1, 600)) {
            return BAD;
        }
        int[] strikesAt = new int[12];
        for (int angle = 0; angle < 12; angle++) {
            for (int b = 0; b < s.figures.size(); b++) {
                for (int a = 0; a < b; a++) {
                    strikesAt[angle] += isStrike(a, b, angle) ? 1 : 0;
                }
            }
        }
        int strikes = 0;
        for (int k = 0; k < n; k++) {
            s.angle = next(s.angle);
            s.passed++;
            strikes += strikesAt[s.angle];
        }
        return strikes;
    }

    int strikes(int a, int b) {
        if (!figs(a) || !figs(b) || a == b) {
            return BAD;
        }
        int set = 0;
        for (int angle = 0; angle < 12; angle++) {
            set += isStrike(a, b, angle) ? 1 << angle : 0;
        }
        return set;
    }

    int wear(int n) {
        if (!in(n, 1, 9)) {
            return BAD;
        }
        State before = s.like();
        for (int t = 0; t < n; t++) {
            State was = s.like();
            for (int c = 0; c < s.cams.size(); c++) {
                int[] old = was.cams.get(c);
                for (int a = 0; a < 12; a++) {
                    s.cams.get(c)[a] = old[a] > 2 + old[(a + 1) % 12] ? old[a] - 1 : old[a];
                }
            }
        }
        int less = 0;
        for (int c = 0; c < s.cams.size(); c++) {
            for (int a = 0; a < 12; a++) {
                less += s.cams.get(c)[a] < before.cams.get(c)[a] ? 1 : 0;
            }
        }
        return less;
    }

    int missed(int figure) {
        if (!figs(figure)) {
            return BAD;
        }
        for (int angle = 0; angle < 12; angle++) {
            char c = s.figures.get(figure).wish.charAt(angle);
            if (c == (isUp(figure, angle) ? 'd' : 'u')) {
                return angle;
            }
        }
        return NONE;
    }

    /** How many cams and then the first row, found among all rows there are. */
    int[] sharing() {
        int[] best = null;
        int n = s.figures.size();
        int[] row = new int[1 + 2 * n];
        return everyRow(row, 0, best);
    }

    private int[] everyRow(int[] row, int figure, int[] best) {
        if (figure == s.figures.size()) {
            return isShared(row) && (best == null || Arrays.compare(row, best) < 0) ? row.clone() : best;
        }
        int cams = row[0];
        for (int cam = 0; cam <= cams; cam++) {
            for (int lag = 0; lag < (cam == cams ? 1 : 12); lag++) {
                row[0] = Math.max(cams, cam + 1);
                row[1 + 2 * figure] = cam;
                row[2 + 2 * figure] = lag;
                best = everyRow(row, figure + 1, best);
            }
        }
        row[0] = cams;
        return best;
    }

    private boolean isShared(int[] row) {
        char[][] asked = new char[5][12];
        for (int f = 0; f < s.figures.size(); f++) {
            for (int angle = 0; angle < 12; angle++) {
                char c = s.figures.get(f).wish.charAt(angle);
                int place = (angle + row[2 + 2 * f]) % 12;
                char there = asked[row[1 + 2 * f]][place];
                if (c != '.' && there != 0 && there != c) {
                    return false;
                }
                if (c != '.') {
                    asked[row[1 + 2 * f]][place] = c;
                }
            }
        }
        return true;
    }

    int pegs(int figure, int what) {
        if (!figs(figure) || !in(what, 0, 1)) {
            return BAD;
        }
        Hung h = s.figures.get(figure);
        int[] best = {100, 0};
        for (int lag = 11; lag >= 0; lag--) {
            int pegs = 0;
            for (int angle = 0; angle < 12; angle++) {
                boolean up = s.cams.get(h.cam)[(angle + lag) % 12] >= s.line;
                pegs += h.wish.charAt(angle) == (up ? 'd' : 'u') ? 1 : 0;
            }
            best = pegs <= best[0] ? new int[] {pegs, lag} : best;
        }
        return best[what];
    }

    int beats(int angle, int v) {
        if (!in(angle, 0, 11) || !in(v, 1, 99)) {
            return BAD;
        }
        int was = s.beats[angle];
        s.beats[angle] = v;
        return was;
    }

    int when(int angle) {
        if (!in(angle, 0, 11)) {
            return BAD;
        }
        int b = 0;
        while (at(b) != angle) {
            b++;
        }
        return b;
    }

    int at(int b) {
        if (!in(b, 0, 99999)) {
            return BAD;
        }
        int angle = s.angle;
        int left = s.beats[angle];
        for (int k = 0; k < b; k++) {
            left--;
            if (left == 0) {
                angle = next(angle);
                left = s.beats[angle];
            }
        }
        return angle;
    }

    int hand(int hand, int steps) {
        if (!in(hand, 0, 3) || !in(steps, 0, 1023)) {
            return BAD;
        }
        int was = s.hands[hand];
        s.hands[hand] = steps;
        return was;
    }

    int whose(int cam) {
        if (!cams(cam)) {
            return BAD;
        }
        int set = 15;
        for (int hand = 0; hand < 4; hand++) {
            for (int a = 0; a < 12; a++) {
                int step = Math.abs(s.cams.get(cam)[(a + 11) % 12] - s.cams.get(cam)[a]);
                if ((s.hands[hand] >> step & 1) == 0) {
                    set &= ~(1 << hand);
                }
            }
        }
        return set;
    }

    int image() {
        kept = s.like();
        return 1;
    }

    int restore() {
        if (kept == null) {
            return NONE;
        }
        s = kept.like();
        return 1;
    }

    // A row of a lane is a Java row: the machine finds NULL, CAST, INDEX.

    private long get(Object row, int lane, int i) {
        return lane == 0 ? ((short[]) row)[i] : lane == 1 ? ((int[]) row)[i] : ((long[]) row)[i];
    }

    private void put(Object row, int lane, int i, long v) {
        if (lane == 0) {
            ((short[]) row)[i] = (short) v;
        } else if (lane == 1) {
            ((int[]) row)[i] = (int) v;
        } else {
            ((long[]) row)[i] = v;
        }
    }

    private int found(int sheet, int lane, int i, int n) {
        if (!in(sheet, 0, 3) || !in(lane, 0, 2)) {
            return BAD;
        }
        Object row = rows[sheet];
        if (row == null) {
            return NULL;
        }
        int length;
        try {
            length = lane == 0 ? ((short[]) row).length : lane == 1 ? ((int[]) row).length : ((long[]) row).length;
        } catch (ClassCastException e) {
            return CAST;
        }
        return i < 0 || n < 0 || (long) i + n > length ? INDEX : 0;
    }

    int worn(int w, int sheet, int lane, int i) {
        if (!in(w, 1, 9)) {
            return BAD;
        }
        int found = found(sheet, lane, i, s.figures.size());
        if (found < 0) {
            return found;
        }
        int set = isTold(rows[sheet], lane, i) ? 64 : 0;
        State was = s;
        for (int c = 0; c < was.cams.size(); c++) {
            s = was.like();
            for (int a = 0; a < 12; a++) {
                s.cams.get(c)[a] = Math.max(0, s.cams.get(c)[a] - w);
            }
            set += isTold(rows[sheet], lane, i) ? 1 << c : 0;
        }
        s = was;
        return set;
    }

    private boolean isTold(Object row, int lane, int i) {
        boolean told = true;
        for (int f = 0; f < s.figures.size(); f++) {
            told &= get(row, lane, i + f) == ups(f);
        }
        return told;
    }

    int film(int figure, int sheet, int lane, int i) {
        if (!figs(figure)) {
            return BAD;
        }
        int found = found(sheet, lane, i, 12);
        if (found < 0) {
            return found;
        }
        for (int angle = 0; angle < 12; angle++) {
            put(rows[sheet], lane, i + angle, heightAt(figure, angle));
        }
        return 12;
    }

    int sheet(int sheet, int lane, int n) {
        if (!in(sheet, 0, 3) || !in(lane, 0, 2) || n > 24) {
            return BAD;
        }
        try {
            rows[sheet] = lane == 0 ? new short[n] : lane == 1 ? new int[n] : new long[n];
        } catch (NegativeArraySizeException e) {
            return SIZE;
        }
        return n;
    }

    int drop(int sheet) {
        if (!in(sheet, 0, 3)) {
            return BAD;
        }
        if (rows[sheet] == null) {
            return NULL;
        }
        int n = java.lang.reflect.Array.getLength(rows[sheet]);
        rows[sheet] = null;
        return n;
    }

    int item(int sheet, int lane, int i, long v) {
        int found = found(sheet, lane, i, 1);
        if (found < 0) {
            return found;
        }
        put(rows[sheet], lane, i, v);
        return 1;
    }

    int copy(int from, int i, int to, int j, int n) {
        if (!in(from, 0, 3) || !in(to, 0, 3)) {
            return BAD;
        }
        try {
            System.arraycopy(rows[from], i, rows[to], j, n);
        } catch (NullPointerException e) {
            return NULL;
        } catch (ArrayStoreException e) {
            return CAST;
        } catch (IndexOutOfBoundsException e) {
            return INDEX;
        }
        return n;
    }
}
