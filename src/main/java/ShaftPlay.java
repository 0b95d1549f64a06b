import java.util.Arrays;

/**
 * A play on one shaft: figures hang on the cams of a single shaft, so that time is an angle.
 *
 * Every row is made in a constructor and used again: no call of the face makes an object.
 */
public final class ShaftPlay {
    public static final int BAD = -1, NOT = -2, FULL = -3, NONE = -4, NULL = -11, CAST = -12, INDEX = -13, SIZE = -14;

    private static final int ANGLES = 12, ALL_ANGLES = 4095, LAG_0_ALONE = 1;
    private static final int MOST_TURNED = 600, MOST_PASSED = 1000000000;
    private static final int CAMS = 6, GREATEST_HAIR = 9, WEARING_FALL = 2, MOST_TURNS = 9;
    private static final int FIGURES = 5, PLACES = 4, GREATEST_LINE = 9;
    private static final int KINDS = 4, DOUBLED = 1, SLOW = 2, LIVING = 3;
    private static final int GREATEST_BEATS = 99, LAST_BEAT = 99999;
    private static final int HANDS = 4, ALL_STEPS = 1023;
    private static final int TAPE_BYTES = 40, BYTES_OF_LONG = 8, BLANK = 32, LAST_BYTE = 126, FIRST_FAULT = -20;
    private static final int SHEETS = 4, ITEMS = 24, SHORTS = 0, INTS = 1, LONGS = 2, NO_LANE = -1;
    private static final int NO_CAM = -1, AS_ALL_IS = 64;

    private final Play now;
    private final Play imaged;
    private boolean hasImage;
    private final Tape tape;
    private final Sheet[] sheets;
    private final Sharing sharing;
    private final int[] wornHairs;

    public ShaftPlay() {
        now = new Play();
        imaged = new Play();
        tape = new Tape();
        sheets = new Sheet[SHEETS];
        for (int s = 0; s < SHEETS; s++) {
            sheets[s] = new Sheet();
        }
        sharing = new Sharing();
        wornHairs = new int[ANGLES];
    }

    // ---- 1 cams, figures

    public int type(long w, int n) {
        if (!isWithin(n, 1, BYTES_OF_LONG) || !areBytesOfTape(w, n)) {
            return BAD;
        }
        return tape.append(w, n);
    }

    public int cam() {
        int fault = takeTape(false);
        if (fault < 0) {
            return fault;
        }
        return now.addCam(tape.signs);
    }

    public int cut(int cam, int angle, int v) {
        if (!isCam(cam) || !isAngle(angle) || !isWithin(v, 0, GREATEST_HAIR)) {
            return BAD;
        }
        int was = now.hairs[cam][angle];
        now.hairs[cam][angle] = v;
        return was;
    }

    public int told(int cam, int angle) {
        if (!isCam(cam) || !isAngle(angle)) {
            return BAD;
        }
        return now.hairs[cam][angle];
    }

    public int figure(int kind, int cam, int lag, int place) {
        if (!isKind(kind) || !isCam(cam) || !isAngle(lag) || !isPlace(place)) {
            return BAD;
        }
        return now.addFigure(kind, cam, lag, place);
    }

    public int set(int figure, int what, int v) {
        if (!isFigure(figure)) {
            return BAD;
        }
        switch (what) {
            case 0:
                return isKind(v) ? now.figures[figure].changeKind(v) : BAD;
            case 1:
                return isCam(v) ? now.figures[figure].changeCam(v) : BAD;
            case 2:
                return isAngle(v) ? now.figures[figure].changeLag(v) : BAD;
            case 3:
                return isPlace(v) ? now.figures[figure].changePlace(v) : BAD;
            default:
                return BAD;
        }
    }

    public int wish(int figure) {
        if (!isFigure(figure)) {
            return BAD;
        }
        int fault = takeTape(true);
        if (fault < 0) {
            return fault;
        }
        return now.figures[figure].wishFor(tape.signs);
    }

    public int line(int v) {
        if (!isWithin(v, 1, GREATEST_LINE)) {
            return BAD;
        }
        int was = now.upFrom;
        now.upFrom = v;
        return was;
    }

    public int way(int v) {
        if (!isWithin(v, 0, 1)) {
            return BAD;
        }
        int was = now.backwards;
        now.backwards = v;
        return was;
    }

    public int count(int what) {
        switch (what) {
            case 0:
                return now.camCount;
            case 1:
                return now.figureCount;
            case 2:
                return now.angle;
            case 3:
                return now.backwards;
            case 4:
                return now.passed;
            case 5:
                return now.figuresUpNow();
            default:
                return BAD;
        }
    }

    // ---- 2 the play

    public int height(int figure, int angle) {
        if (!isFigure(figure) || !isAngle(angle)) {
            return BAD;
        }
        Figure f = now.figures[figure];
        return now.heightOn(now.hairs[f.cam], f, angle);
    }

    public int ups(int figure) {
        if (!isFigure(figure)) {
            return BAD;
        }
        return now.upsOf(now.figures[figure]);
    }

    public int turn(int n) {
        if (!isWithin(n, 1, MOST_TURNED)) {
            return BAD;
        }
        int strikes = now.strikesInTurning(n);
        now.goOn(n);
        return strikes;
    }

    public int strikes(int a, int b) {
        if (!isFigure(a) || !isFigure(b) || a == b) {
            return BAD;
        }
        return now.strikesOf(now.figures[a], now.figures[b]);
    }

    public int wear(int n) {
        if (!isWithin(n, 1, MOST_TURNS)) {
            return BAD;
        }
        int less = 0;
        for (int cam = 0; cam < now.camCount; cam++) {
            less += wornBy(now.hairs[cam], n);
        }
        return less;
    }

    public int missed(int figure) {
        if (!isFigure(figure)) {
            return BAD;
        }
        Figure f = now.figures[figure];
        int missed = f.missedWith(now.upsOf(f));
        for (int angle = 0; angle < ANGLES; angle++) {
            if ((missed >> angle & 1) == 1) {
                return angle;
            }
        }
        return NONE;
    }

    public int fewest() {
        return shareCams();
    }

    public int share(int figure, int what) {
        if (!isFigure(figure) || !isWithin(what, 0, 1)) {
            return BAD;
        }
        shareCams();
        return what == 0 ? sharing.cam[figure] : sharing.lag[figure];
    }

    public int pegs(int figure, int what) {
        if (!isFigure(figure) || !isWithin(what, 0, 1)) {
            return BAD;
        }
        int fewest = ANGLES + 1;
        int fewestLag = 0;
        for (int lag = 0; lag < ANGLES; lag++) {
            int pegs = now.pegsBy(now.figures[figure], lag);
            if (pegs < fewest) {
                fewest = pegs;
                fewestLag = lag;
            }
        }
        return what == 0 ? fewest : fewestLag;
    }

    // ---- 3 beats, hands

    public int beats(int angle, int v) {
        if (!isAngle(angle) || !isWithin(v, 1, GREATEST_BEATS)) {
            return BAD;
        }
        int was = now.beatsAt[angle];
        now.beatsAt[angle] = v;
        return was;
    }

    public int when(int angle) {
        if (!isAngle(angle)) {
            return BAD;
        }
        return now.beatsTill(angle);
    }

    public int at(int b) {
        if (!isWithin(b, 0, LAST_BEAT)) {
            return BAD;
        }
        return now.angleAfter(b);
    }

    public int hand(int hand, int steps) {
        if (!isWithin(hand, 0, HANDS - 1) || !isWithin(steps, 0, ALL_STEPS)) {
            return BAD;
        }
        int was = now.stepsOf[hand];
        now.stepsOf[hand] = steps;
        return was;
    }

    public int whose(int cam) {
        if (!isCam(cam)) {
            return BAD;
        }
        int needed = stepsIn(now.hairs[cam]);
        int hands = 0;
        for (int hand = 0; hand < HANDS; hand++) {
            if ((needed & ~now.stepsOf[hand]) == 0) {
                hands |= 1 << hand;
            }
        }
        return hands;
    }

    public int image() {
        imaged.becomeLike(now);
        hasImage = true;
        return 1;
    }

    public int restore() {
        if (!hasImage) {
            return NONE;
        }
        now.becomeLike(imaged);
        return 1;
    }

    // ---- 4 sheets

    public int worn(int w, int sheet, int lane, int i) {
        if (!isWithin(w, 1, GREATEST_HAIR)) {
            return BAD;
        }
        int refusal = refusalOf(sheet, lane, i, now.figureCount);
        if (refusal < 0) {
            return refusal;
        }
        Sheet told = sheets[sheet];
        int found = isSo(told, i, NO_CAM) ? AS_ALL_IS : 0;
        for (int cam = 0; cam < now.camCount; cam++) {
            lessenInto(wornHairs, now.hairs[cam], w);
            if (isSo(told, i, cam)) {
                found |= 1 << cam;
            }
        }
        return found;
    }

    public int film(int figure, int sheet, int lane, int i) {
        if (!isFigure(figure)) {
            return BAD;
        }
        int refusal = refusalOf(sheet, lane, i, ANGLES);
        if (refusal < 0) {
            return refusal;
        }
        Figure f = now.figures[figure];
        for (int angle = 0; angle < ANGLES; angle++) {
            sheets[sheet].put(i + angle, now.heightOn(now.hairs[f.cam], f, angle));
        }
        return ANGLES;
    }

    public int sheet(int sheet, int lane, int n) {
        if (!isSheet(sheet) || !isLane(lane) || n > ITEMS) {
            return BAD;
        }
        if (n < 0) {
            return SIZE;
        }
        sheets[sheet].begin(lane, n);
        return n;
    }

    public int drop(int sheet) {
        if (!isSheet(sheet)) {
            return BAD;
        }
        if (sheets[sheet].isNothing()) {
            return NULL;
        }
        return sheets[sheet].end();
    }

    public int item(int sheet, int lane, int i, long v) {
        int refusal = refusalOf(sheet, lane, i, 1);
        if (refusal < 0) {
            return refusal;
        }
        sheets[sheet].put(i, v);
        return 1;
    }

    public int copy(int from, int i, int to, int j, int n) {
        if (!isSheet(from) || !isSheet(to)) {
            return BAD;
        }
        Sheet source = sheets[from];
        Sheet target = sheets[to];
        if (source.isNothing() || target.isNothing()) {
            return NULL;
        }
        if (source.lane != target.lane) {
            return CAST;
        }
        if (!source.hasItems(i, n) || !target.hasItems(j, n)) {
            return INDEX;
        }
        System.arraycopy(source.items, i, target.items, j, n);
        return n;
    }

    // ---- what numbers are as told

    private static boolean isWithin(int v, int least, int greatest) {
        return v >= least && v <= greatest;
    }

    private static boolean isAngle(int angle) {
        return isWithin(angle, 0, ANGLES - 1);
    }

    private static boolean isKind(int kind) {
        return isWithin(kind, 0, KINDS - 1);
    }

    private static boolean isPlace(int place) {
        return isWithin(place, 0, PLACES - 1);
    }

    private static boolean isSheet(int sheet) {
        return isWithin(sheet, 0, SHEETS - 1);
    }

    private static boolean isLane(int lane) {
        return isWithin(lane, SHORTS, LONGS);
    }

    private boolean isCam(int cam) {
        return isWithin(cam, 0, now.camCount - 1);
    }

    private boolean isFigure(int figure) {
        return isWithin(figure, 0, now.figureCount - 1);
    }

    private static boolean areBytesOfTape(long w, int n) {
        for (int k = 0; k < n; k++) {
            if (!isWithin(byteOf(w, k), BLANK, LAST_BYTE)) {
                return false;
            }
        }
        return true;
    }

    /** What a call on n items of a sheet, taken as a row of a lane, from i on is refused by; 0: nothing. */
    private int refusalOf(int sheet, int lane, int i, int n) {
        if (!isSheet(sheet) || !isLane(lane)) {
            return BAD;
        }
        if (sheets[sheet].isNothing()) {
            return NULL;
        }
        if (sheets[sheet].lane != lane) {
            return CAST;
        }
        return sheets[sheet].hasItems(i, n) ? 0 : INDEX;
    }

    // ---- small helpers

    private static int byteOf(long w, int k) {
        return (int) (w >>> 8 * k) & 255;
    }

    private static int angleOf(int sum) {
        return Math.floorMod(sum, ANGLES);
    }

    /** A set of angles, each of them moved on by some angles (by numbers). */
    private static int movedOn(int set, int by) {
        int angles = angleOf(by);
        return (set << angles | set >>> ANGLES - angles) & ALL_ANGLES;
    }

    /** The tape is empty behind a fault, too. */
    private int takeTape(boolean isWish) {
        int fault = tape.read(isWish);
        tape.clear();
        return fault;
    }

    private static int stepsIn(int[] hairs) {
        int steps = 0;
        for (int angle = 0; angle < ANGLES; angle++) {
            steps |= 1 << Math.abs(hairs[angle] - hairs[angleOf(angle + 1)]);
        }
        return steps;
    }

    private static void lessenInto(int[] row, int[] hairs, int w) {
        for (int angle = 0; angle < ANGLES; angle++) {
            row[angle] = Math.max(hairs[angle] - w, 0);
        }
    }

    /** Wears the hairs of a cam by n turns: how many are less than they were. */
    private static int wornBy(int[] hairs, int n) {
        int less = 0;
        for (int t = 0; t < n; t++) {
            // A hair that wore in an earlier turn has been counted in it.
            less |= wornByOneTurn(hairs);
        }
        return Integer.bitCount(less);
    }

    /** A set of the angles at which a hair became less. */
    private static int wornByOneTurn(int[] hairs) {
        int wearing = 0;
        // All hairs wear at once: none may be cut before all are looked at.
        for (int angle = 0; angle < ANGLES; angle++) {
            if (hairs[angle] - hairs[angleOf(angle + 1)] > WEARING_FALL) {
                wearing |= 1 << angle;
            }
        }
        for (int angle = 0; angle < ANGLES; angle++) {
            hairs[angle] -= wearing >> angle & 1;
        }
        return wearing;
    }

    /** Whether all figures are up as the sheet tells, if the hairs of one cam were those worn. */
    private boolean isSo(Sheet told, int i, int wornCam) {
        for (int k = 0; k < now.figureCount; k++) {
            Figure f = now.figures[k];
            int[] hairs = f.cam == wornCam ? wornHairs : now.hairs[f.cam];
            if (told.items[i + k] != now.upsOn(hairs, f)) {
                return false;
            }
        }
        return true;
    }

    /** Finds the first sharing of the fewest cams: how many these are. */
    private int shareCams() {
        sharing.compare(now.figures, now.figureCount);
        for (int most = 0; most < now.figureCount; most++) {
            if (isSeated(sharing, now.figureCount, 0, 0, most)) {
                return most;
            }
        }
        // With a cam for each figure there is always a place left.
        isSeated(sharing, now.figureCount, 0, 0, now.figureCount);
        return now.figureCount;
    }

    /**
     * Puts a figure and all behind it on cams, most of them at the most; the first way that goes
     * is the first row, as cams and lags are tried in their order.
     */
    private static boolean isSeated(Sharing sharing, int figures, int figure, int cams, int most) {
        if (figure >= figures || figure >= FIGURES) {
            return true;
        }
        for (int cam = 0; cam <= cams && cam < most; cam++) {
            int lags = cam < cams ? sharing.lagsOn(cam, figure) : LAG_0_ALONE;
            for (int lag = 0; lag < ANGLES; lag++) {
                if ((lags >> lag & 1) == 1) {
                    sharing.cam[figure] = cam;
                    sharing.lag[figure] = lag;
                    if (isSeated(sharing, figures, figure + 1, Math.max(cams, cam + 1), most)) {
                        return true;
                    }
                }
            }
        }
        return false;
    }

    /** Bytes typed, and the signs that were read of them. */
    private static final class Tape {
        final int[] bytes;
        final int[] signs;
        int length;

        Tape() {
            bytes = new int[TAPE_BYTES];
            signs = new int[ANGLES];
        }

        int append(long w, int n) {
            if (length + n > TAPE_BYTES) {
                return FULL;
            }
            for (int k = n - 1; k >= 0; k--) {
                bytes[length] = byteOf(w, k);
                length++;
            }
            return length;
        }

        void clear() {
            length = 0;
        }

        /** Reads a sign for each angle: a fault, or 0. */
        int read(boolean isWish) {
            int found = 0;
            for (int place = 0; place < length; place++) {
                if (bytes[place] == BLANK) {
                    continue;
                }
                int sign = isWish ? wishSignOf(bytes[place]) : digitOf(bytes[place]);
                if (sign < 0 || found >= ANGLES) {
                    return FIRST_FAULT - place;
                }
                signs[found] = sign;
                found++;
            }
            return found < ANGLES ? FIRST_FAULT - length : 0;
        }

        static int digitOf(int b) {
            return isWithin(b, '0', '9') ? b - '0' : -1;
        }

        static int wishSignOf(int b) {
            switch (b) {
                case 'u':
                case 'd':
                case '.':
                    return b;
                default:
                    return -1;
            }
        }
    }

    /** What hangs on a cam, and its wish: two sets of angles. */
    private static final class Figure {
        int kind;
        int cam;
        int lag;
        int place;
        int wishedUp;
        int wishedDown;

        int changeKind(int v) {
            int was = kind;
            kind = v;
            return was;
        }

        int changeCam(int v) {
            int was = cam;
            cam = v;
            return was;
        }

        int changeLag(int v) {
            int was = lag;
            lag = v;
            return was;
        }

        int changePlace(int v) {
            int was = place;
            place = v;
            return was;
        }

        int wishFor(int[] signs) {
            wishedUp = 0;
            wishedDown = 0;
            for (int angle = 0; angle < ANGLES; angle++) {
                if (signs[angle] == 'u') {
                    wishedUp |= 1 << angle;
                } else if (signs[angle] == 'd') {
                    wishedDown |= 1 << angle;
                }
            }
            return Integer.bitCount(wishedUp | wishedDown);
        }

        int missedWith(int ups) {
            return wishedUp & ~ups | wishedDown & ups;
        }

        void becomeLike(Figure other) {
            kind = other.kind;
            cam = other.cam;
            lag = other.lag;
            place = other.place;
            wishedUp = other.wishedUp;
            wishedDown = other.wishedDown;
        }
    }

    /** All that an image keeps: the shaft, its cams and figures, the beats and the hands. */
    private static final class Play {
        final int[][] hairs;
        int camCount;
        final Figure[] figures;
        int figureCount;
        int upFrom;
        int backwards;
        int angle;
        int passed;
        final int[] beatsAt;
        final int[] stepsOf;

        Play() {
            hairs = new int[CAMS][ANGLES];
            figures = new Figure[FIGURES];
            for (int k = 0; k < FIGURES; k++) {
                figures[k] = new Figure();
            }
            upFrom = 5;
            beatsAt = new int[ANGLES];
            Arrays.fill(beatsAt, 1);
            stepsOf = new int[HANDS];
            Arrays.fill(stepsOf, ALL_STEPS);
        }

        void becomeLike(Play other) {
            for (int cam = 0; cam < CAMS; cam++) {
                System.arraycopy(other.hairs[cam], 0, hairs[cam], 0, ANGLES);
            }
            camCount = other.camCount;
            for (int k = 0; k < FIGURES; k++) {
                figures[k].becomeLike(other.figures[k]);
            }
            figureCount = other.figureCount;
            upFrom = other.upFrom;
            backwards = other.backwards;
            angle = other.angle;
            passed = other.passed;
            System.arraycopy(other.beatsAt, 0, beatsAt, 0, ANGLES);
            System.arraycopy(other.stepsOf, 0, stepsOf, 0, HANDS);
        }

        int addCam(int[] digits) {
            if (camCount >= CAMS) {
                return FULL;
            }
            System.arraycopy(digits, 0, hairs[camCount], 0, ANGLES);
            camCount++;
            return camCount - 1;
        }

        int addFigure(int kind, int cam, int lag, int place) {
            if (figureCount >= FIGURES) {
                return FULL;
            }
            Figure f = figures[figureCount];
            f.kind = kind;
            f.cam = cam;
            f.lag = lag;
            f.place = place;
            f.wishedUp = 0;
            f.wishedDown = 0;
            figureCount++;
            return figureCount - 1;
        }

        int oneBehind(int a) {
            return angleOf(backwards == 0 ? a + 1 : a - 1);
        }

        int someAhead(int a, int n) {
            return Math.floorMod(backwards == 0 ? a - n : a + n, ANGLES);
        }

        static int hairOf(int[] hairs, Figure f, int a) {
            return hairs[Math.floorMod(a + f.lag, ANGLES)];
        }

        int heightOn(int[] hairs, Figure f, int a) {
            int hair = hairOf(hairs, f, a);
            switch (f.kind) {
                case DOUBLED:
                    return 2 * hair;
                case SLOW:
                    return slowHeight(hairs, f, a);
                case LIVING:
                    return hair > hairOf(hairs, f, someAhead(a, 1)) ? 2 * hair + 1 : 2 * hair;
                default:
                    return hair;
            }
        }

        int slowHeight(int[] hairs, Figure f, int a) {
            int height = 0;
            for (int n = 0; n < ANGLES; n++) {
                height = Math.max(height, hairOf(hairs, f, someAhead(a, n)) - n);
            }
            return height;
        }

        int upsOn(int[] hairs, Figure f) {
            int ups = 0;
            for (int a = 0; a < ANGLES; a++) {
                if (heightOn(hairs, f, a) >= upFrom) {
                    ups |= 1 << a;
                }
            }
            return ups;
        }

        int upsOf(Figure f) {
            return upsOn(hairs[f.cam], f);
        }

        int figuresUpNow() {
            int up = 0;
            for (int k = 0; k < figureCount; k++) {
                Figure f = figures[k];
                if (heightOn(hairs[f.cam], f, angle) >= upFrom) {
                    up |= 1 << k;
                }
            }
            return up;
        }

        int strikesOf(Figure a, Figure b) {
            if (a.place != b.place) {
                return 0;
            }
            int both = upsOn(hairs[a.cam], a) & upsOn(hairs[b.cam], b);
            int bothAhead = movedOn(both, backwards == 0 ? 1 : -1);
            return both & ~bothAhead;
        }

        /** Heights depend on the angle alone: whole turns need not be walked one by one. */
        int strikesInTurning(int n) {
            int wholeTurns = n / ANGLES;
            int rest = anglesToCome(n % ANGLES);
            int strikes = 0;
            for (int a = 0; a < figureCount; a++) {
                for (int b = a + 1; b < figureCount; b++) {
                    int set = strikesOf(figures[a], figures[b]);
                    strikes += wholeTurns * Integer.bitCount(set) + Integer.bitCount(set & rest);
                }
            }
            return strikes;
        }

        /** The angles to which the shaft comes by n angles, as a set. */
        int anglesToCome(int n) {
            int set = 0;
            int a = angle;
            for (int k = 0; k < n; k++) {
                a = oneBehind(a);
                set |= 1 << a;
            }
            return set;
        }

        void goOn(int n) {
            angle = angleOf(backwards == 0 ? angle + n : angle - n);
            passed = Math.min(passed + n, MOST_PASSED);
        }

        /** How many hairs of its cam a straight figure with this lag needs cut anew for its wish. */
        int pegsBy(Figure f, int lag) {
            int ups = 0;
            for (int a = 0; a < ANGLES; a++) {
                if (hairs[f.cam][angleOf(a + lag)] >= upFrom) {
                    ups |= 1 << a;
                }
            }
            return Integer.bitCount(f.missedWith(ups));
        }

        int beatsTill(int target) {
            int sum = 0;
            int a = angle;
            for (int k = 0; k < ANGLES && a != target; k++) {
                sum += beatsAt[a];
                a = oneBehind(a);
            }
            return sum;
        }

        int angleAfter(int b) {
            int inTurn = 0;
            for (int a = 0; a < ANGLES; a++) {
                inTurn += beatsAt[a];
            }
            int left = inTurn > 0 ? b % inTurn : 0;
            int a = angle;
            for (int k = 0; k < ANGLES && left >= beatsAt[a]; k++) {
                left -= beatsAt[a];
                a = oneBehind(a);
            }
            return a;
        }
    }

    /** Figures on new cams, each by a lag. */
    private static final class Sharing {
        final int[] cam;
        final int[] lag;
        /** By an earlier figure, put on a cam by lag 0, and a later one: the later one's lags that go with it. */
        final int[][] lagsTogether;

        Sharing() {
            cam = new int[FIGURES];
            lag = new int[FIGURES];
            lagsTogether = new int[FIGURES][FIGURES];
        }

        void compare(Figure[] figures, int count) {
            for (int later = 0; later < count; later++) {
                for (int earlier = 0; earlier < later; earlier++) {
                    lagsTogether[earlier][later] = lagsOf(figures[earlier], figures[later]);
                }
            }
        }

        static int lagsOf(Figure earlier, Figure later) {
            int lags = 0;
            for (int byLag = 0; byLag < ANGLES; byLag++) {
                int up = movedOn(later.wishedUp, byLag);
                int down = movedOn(later.wishedDown, byLag);
                if ((earlier.wishedUp & down | earlier.wishedDown & up) == 0) {
                    lags |= 1 << byLag;
                }
            }
            return lags;
        }

        int lagsOn(int onCam, int figure) {
            int lags = ALL_ANGLES;
            for (int earlier = 0; earlier < figure; earlier++) {
                if (cam[earlier] == onCam) {
                    lags &= movedOn(lagsTogether[earlier][figure], lag[earlier]);
                }
            }
            return lags;
        }
    }

    /** A row of a lane, or nothing. */
    private static final class Sheet {
        final long[] items;
        int lane;
        int size;

        Sheet() {
            items = new long[ITEMS];
            lane = NO_LANE;
        }

        boolean isNothing() {
            return lane == NO_LANE;
        }

        void begin(int newLane, int n) {
            lane = newLane;
            size = n;
            Arrays.fill(items, 0L);
        }

        int end() {
            lane = NO_LANE;
            return size;
        }

        boolean hasItems(int i, int n) {
            return i >= 0 && n >= 0 && i <= size - n;
        }

        void put(int i, long v) {
            switch (lane) {
                case SHORTS:
                    items[i] = (short) v;
                    break;
                case INTS:
                    items[i] = (int) v;
                    break;
                default:
                    items[i] = v;
                    break;
            }
        }
    }
}
