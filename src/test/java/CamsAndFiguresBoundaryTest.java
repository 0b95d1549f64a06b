import java.util.function.Supplier;

/** Boundary cases of promises 1 to 11. */
public final class CamsAndFiguresBoundaryTest {
    private static final int BAD = ShaftPlay.BAD, FULL = ShaftPlay.FULL, NONE = ShaftPlay.NONE;

    public static void main(String[] args) throws IllegalAccessException {
        Cases.run(CamsAndFiguresBoundaryTest.class);
    }

    private static ShaftPlay typed(Supplier<ShaftPlay> made, String text) {
        ShaftPlay x = made.get();
        Due.type(x, text);
        return x;
    }

    private static String times(String text, int n) {
        StringBuilder all = new StringBuilder();
        for (int k = 0; k < n; k++) {
            all.append(text);
        }
        return all.toString();
    }

    static void promise01_allIsEmptyAtFirst() {
        ShaftPlay x = new ShaftPlay();
        for (int what = 0; what <= 5; what++) {
            Due.is("count " + what, x.count(what), 0);
        }
        Due.is("no cam 0", x.told(0, 0), BAD);
        Due.is("no figure 0", x.ups(0), BAD);
        Due.is("the tape", x.cam(), -20);
        Due.is("the line", x.line(5), 5);
        Due.is("no image", x.restore(), NONE);
        for (int angle = 0; angle < 12; angle++) {
            Due.is("beats at " + angle, x.beats(angle, 1), 1);
        }
        for (int hand = 0; hand < 4; hand++) {
            Due.is("steps of hand " + hand, x.hand(hand, 0), 1023);
        }
    }

    static void promise01_objectsShareNothing() {
        View.ofPlay(Plays.full());
        View.ofTapeAndSheets(Plays.full());
        promise01_allIsEmptyAtFirst();
    }

    static void promise02_nIs1To8() {
        Tried.edges("n", Plays::small, 1, 8, (x, n) -> x.type(0x2020202020202020L, n));
        Tried.refused("n 0 on a bare shaft", BAD, Plays::bare, x -> x.type(' ', 0));
        Due.is("n 1 comes as one", new ShaftPlay().type('1', 1), 1);
        Due.is("n 8 comes as eight", new ShaftPlay().type(Due.packed("12345678"), 8), 8);
    }

    static void promise02_bytesAre32To126() {
        for (int place = 0; place < 8; place++) {
            int shift = 8 * place;
            long others = Due.packed("        ") & ~(255L << shift);
            Tried.edges("byte " + place + " from below", Plays::small, 32, 126,
                (x, b) -> x.type(others | (b & 255L) << shift, 8));
            for (int b : new int[] {0, 128, 159, 160, 254}) {
                Tried.refused("byte " + place + " " + b, BAD, Plays::small, x -> x.type(others | (long) b << shift, 8));
            }
        }
    }

    static void promise02_onlyTheNLowestBytesCount() {
        for (int n = 1; n < 8; n++) {
            ShaftPlay x = new ShaftPlay();
            Due.is("BAD bytes above the " + n + " lowest", x.type(-1L << 8 * n | Due.packed("1234567")
                & (1L << 8 * n) - 1, n), n);
        }
        Tried.refused("the highest of n", BAD, Plays::small, x -> x.type(31L << 24 | Due.packed("111"), 4));
        Tried.refused("the lowest of n", BAD, Plays::small, x -> x.type(Due.packed("1111") - '1' + 127, 4));
    }

    static void promise02_theHighestByteComesFirst() {
        ShaftPlay x = new ShaftPlay();
        x.type(Due.packed("12345678"), 8);
        x.type(Due.packed("9012"), 4);
        x.cam();
        Due.hairsAre("hairs", x, 0, "123456789012");
    }

    static void promise02_40AreTaken41AreFull() {
        for (int n = 1; n <= 8; n++) {
            int more = n;
            Due.is("40 by the last " + n, typed(Plays::bare, times(" ", 40 - n)).type(0x2020202020202020L, n), 40);
            Tried.refused("41 by the last " + n, FULL, () -> typed(Plays::bare, times("1", 41 - more)),
                x -> x.type(0x2020202020202020L, more));
            Tried.refused(n + " more than 40", FULL, Plays::full, x -> x.type(0x2020202020202020L, more));
        }
    }

    static void promise02_badGoesBeforeFull() {
        Tried.refused("n 0", BAD, Plays::full, x -> x.type(' ', 0));
        Tried.refused("n 9", BAD, Plays::full, x -> x.type(0x2020202020202020L, 9));
        Tried.refused("byte 31", BAD, Plays::full, x -> x.type(31, 1));
        Tried.refused("byte 127", BAD, Plays::full, x -> x.type(127, 1));
    }

    static void promise03_camsAre0To5() {
        ShaftPlay x = new ShaftPlay();
        for (int cam = 0; cam < 6; cam++) {
            Due.is("cam " + cam, Due.cam(x, "11111111111" + cam), cam);
            Due.is("how many", x.count(0), cam + 1);
        }
        Due.is("the seventh", Due.cam(x, "111111111111"), FULL);
    }

    static void promise03_theTapeIsEmptyBehindACam() {
        ShaftPlay x = typed(Plays::bare, "000000000000");
        x.cam();
        Due.is("one byte more", x.type('1', 1), 1);
        Due.is("is all there is", x.cam(), -21);
    }

    static void promise03_aFaultChangesTheTapeAlone() {
        Tried.changesAsTold("too short", -20 - 11, () -> typed(Plays::bare, "12345678901"), x -> x.cam(), Plays::bare);
        Tried.changesAsTold("a wish", -20, Plays::small, x -> x.cam(), Plays::smallWithEmptyTape);
        Tried.changesAsTold("with six cams", -22, Plays::full, x -> x.cam(), Plays::fullWithEmptyTape);
    }

    static void promise03_fullEmptiesTheTape() {
        Tried.changesAsTold("the seventh", FULL, () -> typed(Plays::fullWithEmptyTape, "123456789012"), x -> x.cam(),
            Plays::fullWithEmptyTape);
    }

    static void promise03_aFaultGoesBeforeFull() {
        Tried.changesAsTold("empty", -20, Plays::fullWithEmptyTape, x -> x.cam(), Plays::fullWithEmptyTape);
        Tried.changesAsTold("too short", -31, () -> typed(Plays::fullWithEmptyTape, "12345678901"), x -> x.cam(),
            Plays::fullWithEmptyTape);
        Tried.changesAsTold("too long", -32, () -> typed(Plays::fullWithEmptyTape, "1234567890123"), x -> x.cam(),
            Plays::fullWithEmptyTape);
    }

    static void promise03_digits0To9() {
        for (int b = 33; b <= 126; b++) {
            boolean isDigit = b >= '0' && b <= '9';
            ShaftPlay first = typed(Plays::bare, (char) b + "12345678901");
            Due.is("byte " + b + " first", first.cam(), isDigit ? 0 : -20);
            Due.is("its hair", first.told(0, 0), isDigit ? b - '0' : BAD);
            ShaftPlay last = typed(Plays::bare, "12345678901" + (char) b);
            Due.is("byte " + b + " last", last.cam(), isDigit ? 0 : -31);
            Due.is("its hair", last.told(0, 11), isDigit ? b - '0' : BAD);
        }
    }

    static void promise03_faultAtTheEnd() {
        for (int n = 0; n < 12; n++) {
            Due.is(n + " digits", typed(Plays::bare, times("7", n)).cam(), -20 - n);
            Due.is(n + " digits, blanks behind", typed(Plays::bare, times("7", n) + "   ").cam(), -23 - n);
            Due.is(n + " digits, blanks ahead", typed(Plays::bare, "  " + times("7", n)).cam(), -22 - n);
        }
        Due.is("40 blanks", typed(Plays::bare, times(" ", 40)).cam(), -60);
        Due.is("11 digits, 29 blanks", typed(Plays::bare, times(" ", 29) + times("7", 11)).cam(), -60);
    }

    static void promise03_faultAtTheThirteenth() {
        Due.is("13 digits", typed(Plays::bare, times("7", 13)).cam(), -32);
        Due.is("blanks ahead of the thirteenth", typed(Plays::bare, times("7", 12) + "  7").cam(), -34);
        Due.is("the last of 40 bytes", typed(Plays::bare, times("7", 12) + times(" ", 27) + "7").cam(), -59);
        Due.is("40 digits", typed(Plays::bare, times("7", 40)).cam(), -32);
        Due.is("the thirteenth is no digit", typed(Plays::bare, times("7", 12) + "u").cam(), -32);
    }

    static void promise03_theFirstFaultCounts() {
        Due.is("two bytes that are none", typed(Plays::bare, "  12x4y").cam(), -24);
        Due.is("a byte, then the end", typed(Plays::bare, "x").cam(), -20);
        Due.is("the last of 40 bytes", typed(Plays::bare, times(" ", 39) + "x").cam(), -59);
    }

    static void promise03_blanksCountForNothing() {
        ShaftPlay x = typed(Plays::bare, "  1 2 3 4 5 6 7 8 9 0   1 2             ");
        Due.is("12 digits in 40 bytes", x.cam(), 0);
        Due.hairsAre("hairs", x, 0, "123456789012");
    }

    static void promise04_camsAnglesAndHairs() {
        Tried.edges("cam of 6", Plays::full, 0, 5, (x, cam) -> x.cut(cam, 3, 2));
        Tried.edges("cam of 2", Plays::small, 0, 1, (x, cam) -> x.cut(cam, 3, 2));
        Tried.edges("angle", Plays::full, 0, 11, (x, angle) -> x.cut(2, angle, 2));
        Tried.edges("v", Plays::full, 0, 9, (x, v) -> x.cut(2, 4, v));
        Tried.refused("no cams", BAD, Plays::bare, x -> x.cut(0, 0, 0));
    }

    static void promise04_whatItWas() {
        ShaftPlay x = Due.withCams("900000000009", "111111111111");
        Due.is("9 at 0", x.cut(0, 0, 0), 9);
        Due.is("9 at 11", x.cut(0, 11, 0), 9);
        Due.is("0 at 11", x.cut(0, 11, 9), 0);
        Due.hairsAre("cut", x, 0, "000000000009");
        Due.hairsAre("the other cam stays", x, 1, "111111111111");
    }

    static void promise05_camsAndAngles() {
        Tried.edges("cam of 6", Plays::full, 0, 5, (x, cam) -> x.told(cam, 3));
        Tried.edges("cam of 2", Plays::small, 0, 1, (x, cam) -> x.told(cam, 3));
        Tried.edges("angle", Plays::full, 0, 11, (x, angle) -> x.told(2, angle));
        Tried.refused("no cams", BAD, Plays::bare, x -> x.told(0, 0));
    }

    static void promise05_leastAndGreatestHair() {
        ShaftPlay x = Due.withCams("900000000001");
        Due.is("9 at 0", x.told(0, 0), 9);
        Due.is("0 at 1", x.told(0, 1), 0);
        Due.is("1 at 11", x.told(0, 11), 1);
    }

    static void promise06_kindsCamsLagsAndPlaces() {
        Tried.edges("kind", Plays::small, 0, 3, (x, kind) -> x.figure(kind, 0, 0, 0));
        Tried.edges("cam of 2", Plays::small, 0, 1, (x, cam) -> x.figure(0, cam, 0, 0));
        Tried.edges("lag", Plays::small, 0, 11, (x, lag) -> x.figure(0, 0, lag, 0));
        Tried.edges("place", Plays::small, 0, 3, (x, place) -> x.figure(0, 0, 0, place));
        Tried.refused("no cams", BAD, Plays::bare, x -> x.figure(0, 0, 0, 0));
    }

    static void promise06_leastAndGreatestOfEach() {
        ShaftPlay x = Due.withCams("000000000000", "1", "111111111111", "1", "1", "1");
        Due.cam(x, "222222222222");
        Due.is("least", x.figure(0, 0, 0, 0), 0);
        Due.is("greatest", x.figure(3, 2, 11, 3), 1);
        int[] greatest = {3, 2, 11, 3};
        for (int what = 0; what < 4; what++) {
            Due.is("least, " + what, x.set(0, what, 0), 0);
            Due.is("greatest, " + what, x.set(1, what, 0), greatest[what]);
        }
    }

    static void promise06_figuresAre0To4() {
        ShaftPlay x = Due.withCams("000000000000");
        for (int figure = 0; figure < 5; figure++) {
            Due.is("figure " + figure, x.figure(0, 0, 0, 0), figure);
            Due.is("how many", x.count(1), figure + 1);
        }
        Due.is("the sixth", x.figure(0, 0, 0, 0), FULL);
        Tried.refused("the sixth changes nothing", FULL, Plays::full, y -> y.figure(3, 5, 11, 3));
    }

    static void promise06_badGoesBeforeFull() {
        Tried.edges("kind", Plays::full, 0, 3, (x, kind) -> x.figure(kind, 0, 0, 0));
        Tried.edges("cam", Plays::full, 0, 5, (x, cam) -> x.figure(0, cam, 0, 0));
        Tried.edges("lag", Plays::full, 0, 11, (x, lag) -> x.figure(0, 0, lag, 0));
        Tried.edges("place", Plays::full, 0, 3, (x, place) -> x.figure(0, 0, 0, place));
    }

    static void promise07_figuresAndWhat() {
        Tried.edges("figure of 5", Plays::full, 0, 4, (x, figure) -> x.set(figure, 0, 0));
        Tried.edges("figure of 2", Plays::small, 0, 1, (x, figure) -> x.set(figure, 0, 0));
        Tried.edges("what", Plays::full, 0, 3, (x, what) -> x.set(2, what, 0));
        Tried.refused("no figures", BAD, Plays::bare, x -> x.set(0, 0, 0));
    }

    static void promise07_values() {
        int[] greatest = {3, 5, 11, 3};
        for (int what = 0; what < 4; what++) {
            int of = what;
            Tried.edges("v of " + what, Plays::full, 0, greatest[what], (x, v) -> x.set(3, of, v));
        }
        Tried.edges("a cam of 2", Plays::small, 0, 1, (x, v) -> x.set(1, 1, v));
    }

    static void promise07_whatItWas() {
        ShaftPlay x = Plays.full();
        int[] greatest = {3, 5, 11, 3};
        for (int what = 0; what < 4; what++) {
            x.set(4, what, greatest[what]);
            Due.is("the greatest of " + what, x.set(4, what, 0), greatest[what]);
            Due.is("the least of " + what, x.set(4, what, 1), 0);
        }
    }

    static void promise08_figures() {
        Tried.edges("figure of 5", Plays::full, 0, 4, (x, figure) -> x.wish(figure));
        Tried.edges("figure of 2", Plays::small, 0, 1, (x, figure) -> x.wish(figure));
        Tried.refused("no figures", BAD, () -> typed(Plays::bare, "............"), x -> x.wish(0));
    }

    static void promise08_badGoesBeforeAFaultAndTheTapeStays() {
        Tried.refused("a FAULT on the tape", BAD, () -> typed(Plays::fullWithEmptyTape, "x"), x -> x.wish(5));
        Tried.refused("an empty tape", BAD, Plays::fullWithEmptyTape, x -> x.wish(5));
        Tried.refused("a wish on the tape", BAD, Plays::full, x -> x.wish(-1));
        ShaftPlay x = typed(Plays::bare, "uuuuuudddddd");
        x.wish(0);
        Due.is("its bytes are there", x.type('1', 1), 13);
    }

    static void promise08_aFaultEmptiesTheTapeAndTheWishStays() {
        String[] texts = {"", "   ", "uudd....uud", "uudd....uud  ", "uudd....uud.u", "uudd1...uud.", "x"};
        int[] faults = {0, 3, 11, 13, 12, 4, 0};
        for (int k = 0; k < texts.length; k++) {
            String text = texts[k];
            Tried.changesAsTold("'" + text + "'", -20 - faults[k], () -> typed(Plays::fullWithEmptyTape, text),
                x -> x.wish(3), Plays::fullWithEmptyTape);
        }
    }

    static void promise08_signs() {
        for (int b = 33; b <= 126; b++) {
            boolean isSign = b == 'u' || b == 'd' || b == '.';
            int told = b == '.' ? 0 : 1;
            ShaftPlay first = typed(Plays::withRows, (char) b + "...........");
            Due.is("byte " + b + " first", first.wish(0), isSign ? told : -20);
            ShaftPlay last = typed(Plays::withRows, "..........." + (char) b);
            Due.is("byte " + b + " last", last.wish(0), isSign ? told : -31);
        }
    }

    static void promise08_faultPlaces() {
        for (int n = 0; n < 12; n++) {
            Due.is(n + " signs", typed(Plays::withRows, times("u", n)).wish(0), -20 - n);
            Due.is(n + " signs among blanks", typed(Plays::withRows, " " + times("u ", n)).wish(0), -21 - 2 * n);
        }
        Due.is("13 signs", typed(Plays::withRows, times("d", 13)).wish(0), -32);
        Due.is("blanks ahead of the thirteenth", typed(Plays::withRows, times(".", 12) + "   .").wish(0), -35);
        Due.is("the last of 40 bytes", typed(Plays::withRows, times(" ", 39) + "x").wish(0), -59);
        Due.is("40 blanks", typed(Plays::withRows, times(" ", 40)).wish(0), -60);
    }

    static void promise08_howManyAnglesAreTold() {
        ShaftPlay x = Due.withCams("999999000000");
        x.figure(0, 0, 0, 0);
        Due.is("none", Due.wish(x, 0, "............"), 0);
        Due.is("one", Due.wish(x, 0, "...........d"), 1);
        Due.is("all u", Due.wish(x, 0, "uuuuuuuuuuuu"), 12);
        Due.is("all d", Due.wish(x, 0, "dddddddddddd"), 12);
        Due.is("both", Due.wish(x, 0, "u..........d"), 2);
        Due.is("in 40 bytes", Due.wish(x, 0, " u u u u u u d d d d d d                "), 12);
        Due.is("it is the wish then", x.missed(0), NONE);
        Due.is("the tape is empty", x.type('1', 1), 1);
    }

    static void promise08_nothingStaysOfAnEarlierWish() {
        ShaftPlay x = Due.withCams("999999000000");
        x.figure(0, 0, 0, 0);
        Due.wish(x, 0, "dddddduuuuuu");
        Due.wish(x, 0, "............");
        Due.is("nothing", x.missed(0), NONE);
        Due.wish(x, 0, "uuuuuudddddd");
        Due.is("the other way round", x.missed(0), NONE);
    }

    static void promise09_lineIs1To9() {
        Tried.edges("v", Plays::full, 1, 9, (x, v) -> x.line(v));
        ShaftPlay x = new ShaftPlay();
        Due.is("5 at first", x.line(1), 5);
        Due.is("the least", x.line(9), 1);
        Due.is("the greatest", x.line(5), 9);
    }

    static void promise10_wayIs0Or1() {
        Tried.edges("v", Plays::full, 0, 1, (x, v) -> x.way(v));
        ShaftPlay x = new ShaftPlay();
        Due.is("forwards at first", x.way(0), 0);
        Due.is("forwards still", x.way(1), 0);
        Due.is("backwards", x.way(1), 1);
        Due.is("backwards still", x.way(0), 1);
    }

    static void promise11_whatIs0To5() {
        Tried.edges("what", Plays::full, 0, 5, (x, what) -> x.count(what));
        for (int what = 0; what <= 5; what++) {
            int of = what;
            Tried.refused("of a bare shaft, " + what, 0, Plays::bare, x -> x.count(of));
        }
    }

    static void promise11_leastAndGreatest() {
        ShaftPlay x = Plays.fullWithEmptyTape();
        Due.is("cams", x.count(0), 6);
        Due.is("figures", x.count(1), 5);
        Due.is("angle: 5 forwards, 17 backwards", x.count(2), 0);
        Due.is("way", x.count(3), 1);
        Due.is("angles passed either way", x.count(4), 22);
        x.turn(1);
        Due.is("the greatest angle", x.count(2), 11);
        Due.is("one angle more", x.count(4), 23);
        x.turn(600);
        Due.is("600 more", x.count(4), 623);
    }

    static void promise11_noneAndAllUp() {
        ShaftPlay x = Due.withCams("500000000004");
        Due.is("no figures", x.count(5), 0);
        for (int figure = 0; figure < 5; figure++) {
            x.figure(0, 0, 0, 0);
        }
        Due.is("all, at the line", x.count(5), 31);
        x.turn(11);
        Due.is("none, 1 below it", x.count(5), 0);
        x.line(4);
        Due.is("all, by a lower line", x.count(5), 31);
        x.set(4, 2, 1);
        Due.is("the last by a lag over 11", x.count(5), 31);
        x.set(0, 2, 11);
        Due.is("not the first", x.count(5), 30);
    }
}
