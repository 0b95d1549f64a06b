import java.util.Random;

/** Long runs of all calls, ordinary, at the edges and wrong, against a second opinion (with a fixed seed). */
public final class OracleTest {
    private static final int RUNS = 500;
    /** All that are promised, less the most that one step makes. */
    private static final int CALLS = 512 - 12;
    private static final String[] CALL_NAMES = {"type", "cam", "cut", "told", "figure", "set", "wish", "line", "way",
        "count", "height", "ups", "turn", "strikes", "wear", "missed", "fewest", "share", "pegs", "beats", "when",
        "at", "hand", "whose", "image", "restore", "worn", "film", "sheet", "drop", "item", "copy"};
    private static final int[] FAR = {Integer.MIN_VALUE, Integer.MIN_VALUE + 1, -20, -1, 12, 25, 601, 1024, 100000,
        Integer.MAX_VALUE - 11, Integer.MAX_VALUE};

    private final Random random;
    private final ShaftPlay x = new ShaftPlay();
    private final Oracle o = new Oracle();
    private String said = "";
    private int calls = 0;

    private OracleTest(int seed) {
        random = new Random(seed);
    }

    public static void main(String[] args) {
        for (int run = 0; run < RUNS; run++) {
            new OracleTest(run).run(run);
        }
        Due.end("OracleTest");
    }

    private void run(int run) {
        int rarely = run % 4 == 0 ? 8 : 60;
        for (; calls < CALLS; calls++) {
            int call = pick();
            if (call == 16 || call == 17) {
                // The oracle looks at every row there is.
                call = random.nextInt(rarely) == 0 ? call : random.nextInt(16);
            }
            long[] both = answers(call);
            Due.is("run " + run + ", call " + calls + ", " + said, both[0], both[1]);
        }
    }

    private int pick() {
        int ahead = random.nextInt(100);
        if (ahead < 12 || calls < 20 && ahead < 60) {
            return random.nextInt(4) == 0 ? 4 : typed();
        }
        return random.nextInt(CALL_NAMES.length);
    }

    /** A text comes whole and mostly well, else cams and wishes would be rare. */
    private int typed() {
        boolean isWish = random.nextInt(2) == 0 && o.s.figures.size() > 0;
        String[] wishes = {"ud.", "ud.", "u.........", "ddddddddu"};
        String signs = isWish ? wishes[random.nextInt(4)] : "0123456789";
        StringBuilder text = new StringBuilder();
        int length = random.nextInt(6) == 0 ? random.nextInt(20) : 12;
        String strange = "/:uUdD.-019 ~";
        for (int k = 0; k < length; k++) {
            String from = random.nextInt(60) == 0 ? strange : signs;
            text.append(from.charAt(random.nextInt(from.length())));
            if (random.nextInt(10) == 0) {
                text.append(' ');
            }
        }
        Due.type(x, text.toString());
        for (int k = 0; k < text.length(); k += 8) {
            String part = text.substring(k, Math.min(k + 8, text.length()));
            o.type(Due.packed(part), part.length());
            calls++;
        }
        return isWish ? 6 : 1;
    }

    private int within(int least, int greatest) {
        int r = random.nextInt(80);
        if (r == 0) {
            return FAR[random.nextInt(FAR.length)];
        }
        if (r < 3) {
            return r == 1 ? least - 1 : greatest + 1;
        }
        if (r < 9) {
            return r < 6 ? least : greatest;
        }
        return least + random.nextInt(Math.max(1, greatest - least + 1));
    }

    private int aCam() {
        return within(0, Math.max(0, o.s.cams.size() - 1));
    }

    private int aFigure() {
        return within(0, Math.max(0, o.s.figures.size() - 1));
    }

    private int laneOf(int sheet) {
        if (random.nextInt(10) == 0 || sheet < 0 || sheet > 3 || o.rows[sheet] == null) {
            return within(0, 2);
        }
        return o.rows[sheet] instanceof short[] ? 0 : o.rows[sheet] instanceof int[] ? 1 : 2;
    }

    private long[] of(int got, int want) {
        return new long[] {got, want};
    }

    private long[] answers(int call) {
        said = CALL_NAMES[call];
        return call < 10 ? answersOfCams(call) : call < 19 ? answersOfPlay(call)
            : call < 26 ? answersOfBeats(call) : answersOfSheets(call);
    }

    private int told(int v) {
        said += " " + v;
        return v;
    }

    private long[] answersOfCams(int call) {
        int a = 0;
        int b = 0;
        int c = 0;
        int d = 0;
        switch (call) {
            case 0:
                long w = random.nextInt(4) == 0 ? random.nextLong() : Due.packed("u.d 0191");
                a = told(within(1, 8));
                return of(x.type(w, a), o.type(w, a));
            case 1:
                return of(x.cam(), o.cam());
            case 2:
                a = told(aCam());
                b = told(within(0, 11));
                c = told(within(0, 9));
                return of(x.cut(a, b, c), o.cut(a, b, c));
            case 3:
                a = told(aCam());
                b = told(within(0, 11));
                return of(x.told(a, b), o.told(a, b));
            case 4:
                a = told(within(0, 3));
                b = told(aCam());
                c = told(within(0, 11));
                d = told(random.nextInt(3) > 0 ? 0 : within(0, 3));
                return of(x.figure(a, b, c, d), o.figure(a, b, c, d));
            case 5:
                a = told(aFigure());
                b = told(within(0, 3));
                c = told(b == 1 ? aCam() : within(0, b == 2 ? 11 : 3));
                return of(x.set(a, b, c), o.set(a, b, c));
            case 6:
                a = told(aFigure());
                return of(x.wish(a), o.wish(a));
            case 7:
                a = told(within(1, 9));
                return of(x.line(a), o.line(a));
            case 8:
                a = told(within(0, 1));
                return of(x.way(a), o.way(a));
            default:
                a = told(within(0, 5));
                return of(x.count(a), o.count(a));
        }
    }

    private long[] answersOfPlay(int call) {
        int a = 0;
        int b = 0;
        switch (call) {
            case 10:
                a = told(aFigure());
                b = told(within(0, 11));
                return of(x.height(a, b), o.height(a, b));
            case 11:
                a = told(aFigure());
                return of(x.ups(a), o.ups(a));
            case 12:
                a = told(random.nextInt(2) == 0 ? within(1, 13) : within(1, 600));
                return of(x.turn(a), o.turn(a));
            case 13:
                a = told(aFigure());
                b = told(aFigure());
                return of(x.strikes(a, b), o.strikes(a, b));
            case 14:
                a = told(within(1, 9));
                return of(x.wear(a), o.wear(a));
            case 15:
                a = told(aFigure());
                return of(x.missed(a), o.missed(a));
            case 16:
                return of(x.fewest(), o.sharing()[0]);
            case 17:
                int[] row = o.sharing();
                for (int k = 0; k < o.s.figures.size(); k++) {
                    Due.is("share cam of " + k, x.share(k, 0), row[1 + 2 * k]);
                    Due.is("share lag of " + k, x.share(k, 1), row[2 + 2 * k]);
                    calls += 2;
                }
                return of(x.share(0, 2), -1);
            default:
                a = told(aFigure());
                b = told(within(0, 1));
                return of(x.pegs(a, b), o.pegs(a, b));
        }
    }

    private long[] answersOfBeats(int call) {
        int a = 0;
        int b = 0;
        switch (call) {
            case 19:
                a = told(within(0, 11));
                b = told(within(1, 99));
                return of(x.beats(a, b), o.beats(a, b));
            case 20:
                a = told(within(0, 11));
                return of(x.when(a), o.when(a));
            case 21:
                a = told(random.nextInt(2) == 0 ? within(0, 99) : within(0, 99999));
                return of(x.at(a), o.at(a));
            case 22:
                a = told(within(0, 3));
                b = told(random.nextInt(2) == 0 ? 1023 - (1 << random.nextInt(10)) : within(0, 1023));
                return of(x.hand(a, b), o.hand(a, b));
            case 23:
                a = told(aCam());
                return of(x.whose(a), o.whose(a));
            case 24:
                return of(x.image(), o.image());
            default:
                return of(x.restore(), o.restore());
        }
    }

    private long[] answersOfSheets(int call) {
        int a = 0;
        int b = told(within(0, 3));
        int c = told(laneOf(b));
        int d = told(random.nextInt(3) == 0 ? within(0, 24) : within(0, 4));
        switch (call) {
            case 26:
                if (random.nextInt(3) > 0) {
                    tellUps(b, c, d);
                }
                a = told(within(1, 9));
                return of(x.worn(a, b, c, d), o.worn(a, b, c, d));
            case 27:
                a = told(aFigure());
                return of(x.film(a, b, c, d), o.film(a, b, c, d));
            case 28:
                a = told(random.nextInt(2) == 0 ? 24 : within(0, 24));
                c = told(within(0, 2));
                return of(x.sheet(b, c, a), o.sheet(b, c, a));
            case 29:
                return random.nextInt(4) > 0 ? of(0, 0) : of(x.drop(b), o.drop(b));
            case 30:
                long v = random.nextInt(3) == 0 ? random.nextLong() : random.nextInt(4096);
                return of(x.item(b, c, d, v), o.item(b, c, d, v));
            default:
                a = told(within(0, 3));
                int j = told(random.nextInt(2) == 0 ? within(0, 4) : within(0, 24));
                int n = told(random.nextInt(2) == 0 ? within(0, 6) : within(0, 24));
                return of(x.copy(b, d, a, j, n), o.copy(b, d, a, j, n));
        }
    }

    /** Tells what is, or what is when one cam is worn: guesses would nearly always be wrong. */
    private void tellUps(int sheet, int lane, int i) {
        int cam = random.nextInt(6);
        int w = 1 + random.nextInt(3);
        Oracle guess = new Oracle();
        guess.s = o.s.like();
        if (cam < guess.s.cams.size() && random.nextInt(3) > 0) {
            int[] hairs = guess.s.cams.get(cam);
            for (int angle = 0; angle < 12; angle++) {
                hairs[angle] = Math.max(0, hairs[angle] - w);
            }
        }
        for (int f = 0; f < guess.s.figures.size() && i >= 0 && i < 24; f++) {
            int ups = guess.ups(f);
            Due.is("item", x.item(sheet, lane, i + f, ups), o.item(sheet, lane, i + f, ups));
            calls++;
        }
    }
}
