/** Boundary cases of promises 21 to 27. */
public final class BeatsAndHandsBoundaryTest {
    private static final int BAD = ShaftPlay.BAD, NONE = ShaftPlay.NONE;

    public static void main(String[] args) throws IllegalAccessException {
        Cases.run(BeatsAndHandsBoundaryTest.class);
    }

    /** Beats that are unlike at each angle: 1, 2, 4 and so on, and 99 behind 64. */
    private static ShaftPlay withBeats() {
        ShaftPlay x = new ShaftPlay();
        for (int angle = 0; angle < 12; angle++) {
            x.beats(angle, Math.min(1 << angle, 99));
        }
        return x;
    }

    private static ShaftPlay withMostBeats() {
        ShaftPlay x = new ShaftPlay();
        for (int angle = 0; angle < 12; angle++) {
            x.beats(angle, 99);
        }
        return x;
    }

    static void promise21_anglesAndBeats() {
        Tried.edges("angle", Plays::full, 0, 11, (x, angle) -> x.beats(angle, 5));
        Tried.edges("v", Plays::full, 1, 99, (x, v) -> x.beats(7, v));
        Tried.refused("v 0 on a bare shaft", BAD, Plays::bare, x -> x.beats(0, 0));
    }

    static void promise21_whatTheyWere() {
        ShaftPlay x = new ShaftPlay();
        for (int angle = 0; angle < 12; angle += 11) {
            Due.is("1 at first, at " + angle, x.beats(angle, 99), 1);
            Due.is("the greatest, at " + angle, x.beats(angle, 1), 99);
            Due.is("the least, at " + angle, x.beats(angle, 2), 1);
        }
        Due.is("1 stays elsewhere", x.beats(1, 1), 1);
    }

    static void promise22_angles() {
        Tried.edges("angle", Plays::full, 0, 11, (x, angle) -> x.when(angle));
        Tried.edges("angle of a bare shaft", Plays::bare, 0, 11, (x, angle) -> x.when(angle));
    }

    static void promise22_0WhereItStands() {
        ShaftPlay x = withBeats();
        for (int angle = 0; angle < 12; angle++) {
            Due.is("at " + angle, x.when(angle), 0);
            x.turn(1);
        }
    }

    static void promise22_forwardsOver11() {
        ShaftPlay x = withBeats();
        x.turn(10);
        Due.is("10 to 11", x.when(11), 99);
        Due.is("10 to 0", x.when(0), 198);
        Due.is("10 to 1", x.when(1), 199);
        Due.is("10 to 9, all round", x.when(9), 198 + 127 + 99 + 99);
    }

    static void promise22_backwardsOver0() {
        ShaftPlay x = withBeats();
        x.turn(1);
        x.way(1);
        Due.is("1 to 0", x.when(0), 2);
        Due.is("1 to 11", x.when(11), 3);
        Due.is("1 to 10", x.when(10), 102);
        Due.is("1 to 2, all round", x.when(2), 3 + 5 * 99 + 64 + 32 + 16 + 8);
    }

    static void promise22_leastAndMostBeats() {
        Due.is("11 of 1", new ShaftPlay().when(11), 11);
        Due.is("11 of 99", withMostBeats().when(11), 1089);
    }

    static void promise23_bIs0To99999() {
        Tried.edges("b", Plays::full, 0, 99999, (x, b) -> x.at(b));
        Tried.edges("b of a bare shaft", Plays::bare, 0, 99999, (x, b) -> x.at(b));
    }

    static void promise23_theLastBeatAtAnAngleAndTheFirstAtTheNext() {
        for (int way = 0; way < 2; way++) {
            ShaftPlay x = withBeats();
            x.way(way);
            x.turn(7);
            int from = x.count(2);
            int sum = 0;
            for (int k = 0; k < 12; k++) {
                int angle = Math.floorMod(way == 0 ? from + k : from - k, 12);
                Due.is("the first at " + angle + ", way " + way, x.at(sum), angle);
                sum += Math.min(1 << angle, 99);
                Due.is("the last at " + angle + ", way " + way, x.at(sum - 1), angle);
            }
            Due.is("round, way " + way, x.at(sum), from);
            Due.is("the last beat ahead of twice round, way " + way, x.at(2 * sum - 1),
                Math.floorMod(way == 0 ? from - 1 : from + 1, 12));
        }
    }

    static void promise23_theGreatestB() {
        ShaftPlay x = new ShaftPlay();
        Due.is("single beats", x.at(99999), 99999 % 12);
        x.way(1);
        Due.is("backwards", x.at(99999), 12 - 99999 % 12);
        x = withMostBeats();
        Due.is("99 beats", x.at(99999), 99999 / 99 % 12);
        x.way(1);
        Due.is("99 beats backwards", x.at(99999), 12 - 99999 / 99 % 12);
        Due.is("it does not go on", x.count(2), 0);
    }

    static void promise24_handsAndSteps() {
        Tried.edges("hand", Plays::full, 0, 3, (x, hand) -> x.hand(hand, 5));
        Tried.edges("steps", Plays::full, 0, 1023, (x, steps) -> x.hand(2, steps));
        Tried.refused("steps 1024 on a bare shaft", BAD, Plays::bare, x -> x.hand(0, 1024));
    }

    static void promise24_whatTheyWere() {
        ShaftPlay x = new ShaftPlay();
        for (int hand = 0; hand < 4; hand++) {
            Due.is("all at first, hand " + hand, x.hand(hand, 0), 1023);
            Due.is("none, hand " + hand, x.hand(hand, 1023), 0);
            Due.is("all, hand " + hand, x.hand(hand, 512), 1023);
        }
        Due.is("9 alone", x.hand(0, 1), 512);
    }

    static void promise25_cams() {
        Tried.edges("cam of 6", Plays::full, 0, 5, (x, cam) -> x.whose(cam));
        Tried.edges("cam of 2", Plays::small, 0, 1, (x, cam) -> x.whose(cam));
        Tried.refused("no cams", BAD, Plays::bare, x -> x.whose(0));
    }

    static void promise25_allHandsAndNone() {
        ShaftPlay x = Due.withCams("909090909090", "555555555555");
        Due.is("all", x.whose(0), 15);
        for (int hand = 0; hand < 4; hand++) {
            x.hand(hand, 0);
        }
        Due.is("none by step 9", x.whose(0), 0);
        Due.is("none by step 0", x.whose(1), 0);
    }

    static void promise25_eachStepBy1Hand() {
        for (int step = 0; step <= 9; step++) {
            StringBuilder hairs = new StringBuilder();
            for (int k = 0; k < 6; k++) {
                hairs.append(0).append(step);
            }
            ShaftPlay x = Due.withCams(hairs.toString());
            for (int hand = 0; hand < 4; hand++) {
                x.hand(hand, 1023);
            }
            int other = step % 4;
            x.hand(other, 1023 - (1 << step));
            Due.is("all but step " + step, x.whose(0), 15 - (1 << other));
            x.hand(other, 1 << step);
            Due.is("step " + step + " alone", x.whose(0), 15);
        }
    }

    static void promise25_aStepAtAnyAngle() {
        // Of step 9 there is one alone, from an angle to the next one.
        String hairs = "098765432110";
        for (int from = 0; from < 12; from++) {
            ShaftPlay x = Due.withCams(hairs.substring(12 - from) + hairs.substring(0, 12 - from));
            x.hand(0, 511);
            x.hand(2, 512);
            x.hand(3, 512 + 3);
            Due.is("from " + from + " to the next", x.whose(0), 2 + 8);
        }
    }

    static void promise25_theStepFrom11To0() {
        ShaftPlay x = Due.withCams("012345678999", "999876543210", "011111111111");
        x.hand(0, 3);
        x.hand(1, 512 + 3);
        x.hand(2, 512);
        x.hand(3, 2);
        Due.is("from 9 to 0", x.whose(0), 2);
        Due.is("from 0 to 9", x.whose(1), 2);
        Due.is("from 1 to 0", x.whose(2), 3);
        x.way(1);
        Due.is("backwards, too", x.whose(0), 2);
    }

    static void promise26_imageOfABareShaft() {
        ShaftPlay x = new ShaftPlay();
        Due.is("image", x.image(), 1);
        Due.cam(x, "111111111111");
        x.figure(0, 0, 0, 0);
        x.line(1);
        Due.is("restore", x.restore(), 1);
        Due.same("all is bare", View.ofPlay(x), View.ofPlay(new ShaftPlay()));
    }

    static void promise26_imageOfAFullPlay() {
        ShaftPlay x = Plays.full();
        Due.is("image", x.image(), 1);
        for (int figure = 0; figure < 5; figure++) {
            Due.wish(x, figure, "u.d.u.d.u.d.");
        }
        for (int cam = 0; cam < 6; cam++) {
            x.cut(cam, 2 * cam, 3);
        }
        for (int what = 0; what < 4; what++) {
            x.set(4, what, 1);
        }
        x.line(9);
        x.way(0);
        x.turn(2);
        x.beats(0, 3);
        x.hand(3, 7);
        Due.same("all is as it was", View.ofImage(x), "1 " + View.ofPlay(Plays.full()));
    }

    static void promise26_anImageChangesNothingElse() {
        ShaftPlay x = Plays.full();
        x.image();
        Due.same("the play", View.ofPlay(x), View.ofPlay(Plays.full()));
        x = Plays.full();
        x.image();
        Due.same("tape and sheets", View.ofTapeAndSheets(x), View.ofTapeAndSheets(Plays.full()));
    }

    static void promise26_theLastImageCounts() {
        ShaftPlay x = new ShaftPlay();
        x.image();
        x.line(9);
        x.image();
        x.line(1);
        x.restore();
        Due.is("line", x.line(5), 9);
    }

    static void promise27_noneWithoutAnImage() {
        Tried.refused("bare", NONE, Plays::bare, x -> x.restore());
        Tried.refused("small", NONE, Plays::small, x -> x.restore());
    }

    static void promise27_allIsAsItWasThen() {
        Due.same("of a full play", View.ofImage(Plays.full()), "1 " + View.ofPlay(Plays.withAnImage()));
    }

    static void promise27_anImageStaysBehindRestore() {
        ShaftPlay x = Plays.full();
        String all = View.ofImage(x);
        Due.same("a second restore", View.ofImage(x), all);
    }

    static void promise27_tapeAndSheetsStay() {
        ShaftPlay x = new ShaftPlay();
        x.image();
        x.type(Due.packed("123"), 3);
        x.sheet(0, 1, 24);
        x.sheet(3, 2, 0);
        x.restore();
        Due.is("the tape", x.type('4', 1), 4);
        Due.is("its bytes", x.cam(), -24);
        Due.is("a row that came later", x.drop(0), 24);
        Due.is("an empty one", x.drop(3), 0);
        x.restore();
        Due.is("a dropped row stays so", x.drop(0), ShaftPlay.NULL);
    }

    static void promise27_moreCamsAndFiguresThanThenAreGone() {
        ShaftPlay x = Plays.full();
        x.restore();
        Due.is("cams", x.count(0), 1);
        Due.is("figures", x.count(1), 1);
        Due.is("no cam 1", x.told(1, 0), BAD);
        Due.is("no figure 1", x.ups(1), BAD);
        Due.is("the next cam", Due.cam(x, "............"), -20 - 2);
        Due.is("the next cam is 1", Due.cam(x, "222222222222"), 1);
        for (int figure = 1; figure < 5; figure++) {
            Due.is("the next figure is " + figure, x.figure(0, 1, 0, 0), figure);
            Due.is("its wish is nothing", x.missed(figure), NONE);
        }
    }
}
