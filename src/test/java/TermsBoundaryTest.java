/** Boundary cases of 'Terms' that no promise has alone: the shaft, lags, heights, the line, strikes. */
public final class TermsBoundaryTest {
    public static void main(String[] args) throws IllegalAccessException {
        Cases.run(TermsBoundaryTest.class);
    }

    private static ShaftPlay withFigure(int kind, String hairs) {
        ShaftPlay x = Due.withCams(hairs);
        x.figure(kind, 0, 0, 0);
        return x;
    }

    /** Two figures of one place, straight, on cams of their own. */
    private static ShaftPlay withTwo(String hairs, String others) {
        ShaftPlay x = Due.withCams(hairs, others);
        x.figure(0, 0, 0, 0);
        x.figure(0, 1, 0, 0);
        return x;
    }

    private static void heightsAre(String what, ShaftPlay x, int... want) {
        for (int angle = 0; angle < 12; angle++) {
            Due.is(what + ", at " + angle, x.height(0, angle), want[angle]);
        }
    }

    static void terms_shaftStandsAt0AndRunsForwardsAtFirst() {
        ShaftPlay x = new ShaftPlay();
        Due.is("angle", x.count(2), 0);
        Due.is("way", x.count(3), 0);
    }

    static void terms_forwardsBehind11Comes0() {
        ShaftPlay x = new ShaftPlay();
        x.turn(11);
        Due.is("11", x.count(2), 11);
        x.turn(1);
        Due.is("behind it", x.count(2), 0);
        x.turn(23);
        Due.is("round and to 11", x.count(2), 11);
        x.turn(2);
        Due.is("over it", x.count(2), 1);
    }

    static void terms_backwardsBehind0Comes11() {
        ShaftPlay x = new ShaftPlay();
        x.way(1);
        x.turn(1);
        Due.is("behind 0", x.count(2), 11);
        x.turn(11);
        Due.is("0 again", x.count(2), 0);
        x.turn(600);
        Due.is("50 times round", x.count(2), 0);
        x.turn(599);
        Due.is("all but one", x.count(2), 1);
        x.turn(2);
        Due.is("over 0", x.count(2), 11);
    }

    static void terms_angleAndLagFrom12OnIsLess12() {
        for (int lag = 0; lag < 12; lag++) {
            ShaftPlay x = Due.withCams("900000000000");
            x.figure(0, 0, lag, 0);
            for (int angle = 0; angle < 12; angle++) {
                int sum = angle + lag;
                Due.is("lag " + lag + ", angle " + angle, x.height(0, angle), sum == 0 || sum == 12 ? 9 : 0);
            }
        }
    }

    static void terms_leastAndGreatestHeightOfEachKind() {
        int[] leastAhead9 = {0, 0, 8, 0};
        int[] greatestAhead0 = {9, 18, 9, 19};
        int[] greatestAhead9 = {9, 18, 9, 18};
        for (int kind = 0; kind < 4; kind++) {
            Due.is("kind " + kind + ", all 0", withFigure(kind, "000000000000").height(0, 5), 0);
            Due.is("kind " + kind + ", 0 ahead of which is 9", withFigure(kind, "900000000000").height(0, 1),
                leastAhead9[kind]);
            Due.is("kind " + kind + ", 9 ahead of which is 0", withFigure(kind, "900000000000").height(0, 0),
                greatestAhead0[kind]);
            Due.is("kind " + kind + ", all 9", withFigure(kind, "999999999999").height(0, 5), greatestAhead9[kind]);
        }
    }

    static void terms_slowIsNeverBelow0() {
        heightsAre("forwards", withFigure(2, "900000000000"), 9, 8, 7, 6, 5, 4, 3, 2, 1, 0, 0, 0);
        ShaftPlay x = withFigure(2, "900000000000");
        x.way(1);
        heightsAre("backwards", x, 9, 0, 0, 0, 1, 2, 3, 4, 5, 6, 7, 8);
    }

    static void terms_slowGoesRoundTheWholeShaft() {
        heightsAre("forwards over 11", withFigure(2, "000000000009"), 8, 7, 6, 5, 4, 3, 2, 1, 0, 0, 0, 9);
        ShaftPlay x = withFigure(2, "000900000000");
        x.way(1);
        heightsAre("backwards over 0", x, 6, 7, 8, 9, 0, 0, 0, 1, 2, 3, 4, 5);
    }

    static void terms_slowIsWhatIsMore() {
        heightsAre("its hair as much as the fall", withFigure(2, "987900000000"), 9, 8, 7, 9, 8, 7, 6, 5, 4, 3, 2, 1);
        heightsAre("its hair 1 more than the fall", withFigure(2, "990000000000"), 9, 9, 8, 7, 6, 5, 4, 3, 2, 1, 0, 0);
        heightsAre("its hair 1 less than the fall", withFigure(2, "970000000000"), 9, 8, 7, 6, 5, 4, 3, 2, 1, 0, 0, 0);
    }

    static void terms_livingIsOneMoreOnlyAboveTheHairAhead() {
        heightsAre("like, 1 above, 1 below", withFigure(3, "445544444444"), 8, 8, 11, 10, 8, 8, 8, 8, 8, 8, 8, 8);
        ShaftPlay x = withFigure(3, "445544444444");
        x.way(1);
        heightsAre("backwards", x, 8, 8, 10, 11, 8, 8, 8, 8, 8, 8, 8, 8);
    }

    static void terms_livingLooksAheadOver11() {
        ShaftPlay x = withFigure(3, "500000000004");
        Due.is("forwards, 0 looks at 11", x.height(0, 0), 11);
        Due.is("forwards, 11 looks at 10", x.height(0, 11), 9);
        x.cut(0, 11, 5);
        Due.is("forwards, as much at 11", x.height(0, 0), 10);
        x.way(1);
        Due.is("backwards, 11 looks at 0", x.height(0, 11), 10);
        x.cut(0, 11, 6);
        Due.is("backwards, more than at 0", x.height(0, 11), 13);
        Due.is("backwards, 0 looks at 1", x.height(0, 0), 11);
    }

    static void terms_livingLooksAheadByItsLag() {
        ShaftPlay x = Due.withCams("500000000004");
        x.figure(3, 0, 11, 0);
        Due.is("forwards, 1 looks at hair 11", x.height(0, 1), 11);
        Due.is("forwards, 0 looks at hair 10", x.height(0, 0), 9);
        x.way(1);
        Due.is("backwards, 0 looks at hair 0", x.height(0, 0), 8);
    }

    static void terms_upIsNoLessThanTheLine() {
        for (int line = 1; line <= 9; line++) {
            ShaftPlay x = withFigure(0, "000000000000");
            x.line(line);
            x.cut(0, 11, line);
            x.cut(0, 0, line - 1);
            Due.is("just the line " + line, x.ups(0), 2048);
        }
        ShaftPlay x = withFigure(0, "555444444444");
        Due.is("5 at first", x.ups(0), 7);
    }

    static void terms_strikeNeedsBothUpAndNotBothAhead() {
        Due.is("both come up", withTwo("990000000000", "990000000000").strikes(0, 1), 1);
        Due.is("the other one comes up", withTwo("999000000000", "099000000000").strikes(0, 1), 2);
        Due.is("one comes as the other goes", withTwo("990000000000", "009900000000").strikes(0, 1), 0);
        Due.is("they meet at one angle", withTwo("999000000000", "009900000000").strikes(0, 1), 4);
        Due.is("always both up", withTwo("999999999999", "999999999999").strikes(0, 1), 0);
        Due.is("never up", withTwo("000000000000", "999999999999").strikes(0, 1), 0);
        Due.is("at every other angle", withTwo("090909090909", "999999999999").strikes(0, 1), 0xAAA);
    }

    static void terms_strikesOver11InBothWays() {
        ShaftPlay x = withTwo("990000000099", "999999999999");
        Due.is("forwards, up over 11", x.strikes(0, 1), 1 << 10);
        x.way(1);
        Due.is("backwards, up over 0", x.strikes(0, 1), 1 << 1);
        x = withTwo("900000000000", "999999999999");
        Due.is("forwards, at 0 not at 11", x.strikes(0, 1), 1);
        x.cut(0, 11, 9);
        Due.is("forwards, at 11 too", x.strikes(0, 1), 2048);
        x.way(1);
        Due.is("backwards, at 0 not at 1", x.strikes(0, 1), 1);
    }

    static void terms_strikesOfOnePlaceAlone() {
        ShaftPlay x = withTwo("900000000000", "900000000000");
        for (int place = 0; place < 4; place++) {
            x.set(0, 3, place);
            for (int other = 0; other < 4; other++) {
                x.set(1, 3, other);
                Due.is("places " + place + " and " + other, x.strikes(0, 1), place == other ? 1 : 0);
            }
        }
    }

    static void terms_aWishIsNothingAtFirst() {
        ShaftPlay x = withTwo("000000000000", "999999999999");
        Due.is("never up", x.missed(0), ShaftPlay.NONE);
        Due.is("always up", x.missed(1), ShaftPlay.NONE);
    }

    static void terms_sheetsHoldNothingAtFirst() {
        for (int sheet = 0; sheet < 4; sheet++) {
            Due.is("sheet " + sheet, new ShaftPlay().drop(sheet), ShaftPlay.NULL);
        }
    }

    static void terms_512CallsAreAnswered() {
        ShaftPlay x = new ShaftPlay();
        for (int call = 1; call < 512; call++) {
            x.turn(600);
        }
        Due.is("angles passed", x.count(4), 511 * 600);
    }
}
