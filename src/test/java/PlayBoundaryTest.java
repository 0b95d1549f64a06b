/** Boundary cases of promises 12 to 20. */
public final class PlayBoundaryTest {
    private static final int BAD = ShaftPlay.BAD, NONE = ShaftPlay.NONE;

    public static void main(String[] args) throws IllegalAccessException {
        Cases.run(PlayBoundaryTest.class);
    }

    private static ShaftPlay withFigure(String hairs) {
        ShaftPlay x = Due.withCams(hairs);
        x.figure(0, 0, 0, 0);
        return x;
    }

    private static ShaftPlay withFiguresOnOneCam(String hairs, int figures) {
        ShaftPlay x = Due.withCams(hairs);
        for (int figure = 0; figure < figures; figure++) {
            x.figure(0, 0, 0, 0);
        }
        return x;
    }

    private static ShaftPlay withWishes(String... wishes) {
        ShaftPlay x = withFiguresOnOneCam("000000000000", wishes.length);
        for (int figure = 0; figure < wishes.length; figure++) {
            Due.wish(x, figure, wishes[figure]);
        }
        return x;
    }

    static void promise12_figuresAndAngles() {
        Tried.edges("figure of 5", Plays::full, 0, 4, (x, figure) -> x.height(figure, 3));
        Tried.edges("figure of 2", Plays::small, 0, 1, (x, figure) -> x.height(figure, 3));
        Tried.edges("angle", Plays::full, 0, 11, (x, angle) -> x.height(2, angle));
        Tried.refused("no figures", BAD, Plays::bare, x -> x.height(0, 0));
    }

    static void promise12_doubledAndLivingLag11() {
        ShaftPlay x = Due.withCams("923456789012");
        x.figure(1, 0, 11, 0);
        Due.is("doubled at 0 is hair 11", x.height(0, 0), 4);
        Due.is("doubled at 1 is hair 0", x.height(0, 1), 18);
        Due.is("doubled at 11 is hair 10", x.height(0, 11), 2);
        x.set(0, 0, 3);
        Due.is("living at 1", x.height(0, 1), 19);
        Due.is("living at 2", x.height(0, 2), 4);
    }

    static void promise12_slowByItsLagOver11() {
        ShaftPlay x = Due.withCams("900000000000");
        x.figure(2, 0, 1, 0);
        Due.is("forwards, hair 0 is at 11", x.height(0, 11), 9);
        Due.is("forwards, 0 is behind it", x.height(0, 0), 8);
        Due.is("forwards, 10 is all round behind it", x.height(0, 10), 0);
        x.way(1);
        Due.is("backwards, 10 is behind it", x.height(0, 10), 8);
        Due.is("backwards, 0 is all round behind it", x.height(0, 0), 0);
    }

    static void promise13_figures() {
        Tried.edges("figure of 5", Plays::full, 0, 4, (x, figure) -> x.ups(figure));
        Tried.edges("figure of 2", Plays::small, 0, 1, (x, figure) -> x.ups(figure));
        Tried.refused("no figures", BAD, Plays::bare, x -> x.ups(0));
    }

    static void promise13_noneAndAllAngles() {
        Due.is("none, 1 below the line", withFigure("444444444444").ups(0), 0);
        Due.is("all, at the line", withFigure("555555555555").ups(0), 4095);
        Due.is("0 alone", withFigure("500000000000").ups(0), 1);
        Due.is("11 alone", withFigure("000000000005").ups(0), 2048);
        ShaftPlay x = withFigure("500000000000");
        x.set(0, 2, 1);
        Due.is("by lag 1", x.ups(0), 2048);
        x.set(0, 2, 11);
        Due.is("by lag 11", x.ups(0), 2);
    }

    static void promise13_slowOver11() {
        ShaftPlay x = withFigure("000000000008");
        x.set(0, 0, 2);
        Due.is("forwards", x.ups(0), 2048 + 7);
        x.way(1);
        Due.is("backwards", x.ups(0), 2048 + 1024 + 512 + 256);
        x = withFigure("800000000000");
        x.set(0, 0, 2);
        x.way(1);
        Due.is("backwards over 0", x.ups(0), 1 + 2048 + 1024 + 512);
    }

    static void promise14_nIs1To600() {
        Tried.edges("n", Plays::full, 1, 600, (x, n) -> x.turn(n));
        Tried.refused("n 0 without figures", BAD, Plays::bare, x -> x.turn(0));
        Tried.refused("n 601 without figures", BAD, Plays::bare, x -> x.turn(601));
    }

    static void promise14_goesOnByN() {
        ShaftPlay x = new ShaftPlay();
        Due.is("the least", x.turn(1), 0);
        Due.is("angle", x.count(2), 1);
        Due.is("passed", x.count(4), 1);
        Due.is("the greatest", x.turn(600), 0);
        Due.is("angle", x.count(2), 1);
        Due.is("passed", x.count(4), 601);
    }

    static void promise14_strikesWhereItComesNotWhereItStood() {
        ShaftPlay x = withFiguresOnOneCam("900000000000", 2);
        Due.is("from 0 to 11", x.turn(11), 0);
        Due.is("from 11 to 0", x.turn(1), 1);
        Due.is("once round", x.turn(12), 1);
        Due.is("50 times round", x.turn(600), 50);
        x.way(1);
        Due.is("backwards, from 0 to 1", x.turn(11), 0);
        Due.is("backwards, from 1 to 0", x.turn(1), 1);
        Due.is("backwards, from 0 to 11", x.turn(1), 0);
        Due.is("backwards, 50 times round", x.turn(600), 50);
    }

    static void promise14_strikesAtAllAnglesToWhichItComes() {
        for (int n = 1; n <= 25; n++) {
            Due.is(n + " angles", withFiguresOnOneCam("909090909090", 2).turn(n), n / 2);
            ShaftPlay x = withFiguresOnOneCam("909090909090", 2);
            x.way(1);
            Due.is(n + " angles backwards", x.turn(n), n / 2);
        }
    }

    static void promise14_strikesOver11() {
        ShaftPlay x = withFiguresOnOneCam("990000000099", 2);
        Due.is("forwards to 9", x.turn(9), 0);
        Due.is("forwards to 10", x.turn(1), 1);
        Due.is("forwards over 11 to 1", x.turn(3), 0);
        x.turn(1);
        x.way(1);
        Due.is("backwards to 1", x.turn(1), 1);
        Due.is("backwards over 0 to 10", x.turn(3), 0);
    }

    static void promise14_aStrikeOfEachTwoFigures() {
        int[] pairs = {0, 0, 1, 3, 6, 10};
        for (int figures = 0; figures <= 5; figures++) {
            Due.is(figures + " figures, once round", withFiguresOnOneCam("900000000000", figures).turn(12),
                pairs[figures]);
        }
        Due.is("most of all", withFiguresOnOneCam("909090909090", 5).turn(600), 3000);
        Due.is("always up", withFiguresOnOneCam("999999999999", 5).turn(600), 0);
    }

    static void promise15_figures() {
        Tried.edges("a of 5", Plays::full, 0, 3, (x, a) -> x.strikes(a, 4));
        Tried.edges("b of 5", Plays::full, 1, 4, (x, b) -> x.strikes(0, b));
        Tried.refused("a 5", BAD, Plays::full, x -> x.strikes(5, 0));
        Tried.refused("b -1", BAD, Plays::full, x -> x.strikes(0, -1));
        Tried.refused("no figures", BAD, Plays::bare, x -> x.strikes(0, 1));
        Tried.refused("one figure", BAD, Plays::withRows, x -> x.strikes(0, 1));
    }

    static void promise15_oneAlikeIsBad() {
        for (int figure = 0; figure < 5; figure++) {
            int a = figure;
            Tried.refused("figure " + a, BAD, Plays::full, x -> x.strikes(a, a));
        }
    }

    static void promise15_leastAndGreatestSets() {
        Due.is("none", withFiguresOnOneCam("999999999999", 2).strikes(0, 1), 0);
        Due.is("0 alone", withFiguresOnOneCam("900000000000", 2).strikes(0, 1), 1);
        Due.is("11 alone", withFiguresOnOneCam("000000000009", 2).strikes(0, 1), 2048);
        Due.is("most", withFiguresOnOneCam("090909090909", 2).strikes(1, 0), 0xAAA);
        ShaftPlay x = withFiguresOnOneCam("900000000009", 2);
        Due.is("forwards at 11, then 0", x.strikes(0, 1), 2048);
        x.way(1);
        Due.is("backwards at 0, then 11", x.strikes(0, 1), 1);
    }

    static void promise16_nIs1To9() {
        Tried.edges("n", Plays::full, 1, 9, (x, n) -> x.wear(n));
        Tried.refused("n 0 without cams", BAD, Plays::bare, x -> x.wear(0));
        Tried.refused("n 10 without cams", BAD, Plays::bare, x -> x.wear(10));
        Due.is("no cams", new ShaftPlay().wear(9), 0);
    }

    static void promise16_moreThan2AboveTheNext() {
        ShaftPlay x = Due.withCams("200000000000", "300000000000");
        Due.is("2 above and 3 above", x.wear(1), 1);
        Due.hairsAre("2 above", x, 0, "200000000000");
        Due.hairsAre("3 above", x, 1, "200000000000");
        Due.is("then nothing wears", x.wear(9), 0);
    }

    static void promise16_behind11TheFirstInBothWays() {
        for (int way = 0; way < 2; way++) {
            ShaftPlay x = Due.withCams("000000000009", "900000000006", "600000000009");
            x.way(way);
            Due.is("hairs that wear, way " + way, x.wear(1), 4);
            Due.hairsAre("11 above 0", x, 0, "000000000008");
            Due.hairsAre("0 above 1, not above 11", x, 1, "800000000006");
            Due.hairsAre("11 above 0, and 0 above 1", x, 2, "500000000008");
        }
    }

    static void promise16_allAtOnce() {
        ShaftPlay x = Due.withCams("530000000000", "000000000053", "300000000005");
        Due.is("hairs", x.wear(1), 3);
        Due.hairsAre("5 is 2 above 3, 3 is 3 above 0", x, 0, "520000000000");
        Due.hairsAre("likewise at the end", x, 1, "000000000052");
        Due.hairsAre("likewise over 11", x, 2, "200000000005");
    }

    static void promise16_hairsCountOnce() {
        ShaftPlay x = Due.withCams("900000000000");
        Due.is("one turn", x.wear(1), 1);
        Due.is("six turns that wear, of nine", x.wear(9), 1);
        Due.hairsAre("2 is left", x, 0, "200000000000");
        x = Due.withCams("900000000000");
        x.wear(7);
        Due.hairsAre("seven turns", x, 0, "200000000000");
        Due.is("never below", x.wear(9), 0);
        x = Due.withCams("999999999990");
        Due.is("nine turns wear more and more", x.wear(9), 3);
        Due.hairsAre("from the end on", x, 0, "999999996420");
    }

    static void promise16_allSixCams() {
        ShaftPlay x = Due.withCams("909090909090", "909090909090", "909090909090", "909090909090", "909090909090",
            "090909090909");
        Due.is("the most hairs", x.wear(9), 36);
        Due.hairsAre("the first cam", x, 0, "202020202020");
        Due.hairsAre("the last cam", x, 5, "020202020202");
    }

    static void promise17_figures() {
        Tried.edges("figure of 5", Plays::full, 0, 4, (x, figure) -> x.missed(figure));
        Tried.edges("figure of 2", Plays::small, 0, 1, (x, figure) -> x.missed(figure));
        Tried.refused("no figures", BAD, Plays::bare, x -> x.missed(0));
    }

    static void promise17_noneWhereItIsKept() {
        ShaftPlay x = withFigure("500000000004");
        Tried.refused("nothing is wished", NONE, () -> withFigure("500000000004"), y -> y.missed(0));
        Due.wish(x, 0, "uddddddddddd");
        Due.is("all is wished", x.missed(0), NONE);
        x.line(4);
        Due.is("no longer", x.missed(0), 11);
    }

    static void promise17_theFirstAngleIs0To11() {
        for (int angle = 0; angle < 12; angle++) {
            char[] up = "dddddddddddd".toCharArray();
            char[] upOnly = "............".toCharArray();
            upOnly[angle] = 'u';
            up[angle] = 'u';
            ShaftPlay x = withFigure("000000000000");
            Due.wish(x, 0, new String(up));
            Due.is("all told, u at " + angle, x.missed(0), angle);
            Due.wish(x, 0, new String(upOnly));
            x.turn(6);
            Due.is("told alone, u at " + angle, x.missed(0), angle);
            x.way(1);
            Due.is("backwards, u at " + angle, x.missed(0), angle);
        }
    }

    static void promise17_theFirstOfSeveral() {
        ShaftPlay x = withFigure("900000000000");
        Due.wish(x, 0, "duuuuuuuuuuu");
        Due.is("all are missed", x.missed(0), 0);
        Due.wish(x, 0, "u.........uu");
        x.turn(11);
        Due.is("by numbers, where it stands does not matter", x.missed(0), 10);
        x.way(1);
        Due.is("nor how it runs", x.missed(0), 10);
    }

    static void promise18_noFiguresNoCams() {
        Tried.refused("a bare shaft", 0, Plays::bare, x -> x.fewest());
        Due.is("cams alone", Due.withCams("000000000000", "000000000000").fewest(), 0);
    }

    static void promise18_oneTo5Cams() {
        String[] wishes = {"dddddddddddd", "uddddddddddd", "uudddddddddd", "uuuddddddddd", "uuuudddddddd"};
        ShaftPlay x = Due.withCams("000000000000");
        for (int figure = 0; figure < 5; figure++) {
            x.figure(0, 0, 0, 0);
            Due.wish(x, figure, wishes[figure]);
            Due.is("unlike wishes", x.fewest(), figure + 1);
        }
        for (int figure = 0; figure < 5; figure++) {
            Due.wish(x, figure, "............");
        }
        Due.is("five wishes for nothing", x.fewest(), 1);
        Tried.refused("nothing is changed", Plays.full().fewest(), Plays::full, y -> y.fewest());
    }

    static void promise18_byALagOver11() {
        Due.is("u at 0 and u at 11", withWishes("uddddddddddd", "dddddddddddu").fewest(), 1);
        Due.is("u over 11", withWishes("uudddddddddd", "uddddddddddu").fewest(), 1);
        Due.is("two apart", withWishes("uudddddddddd", "ududdddddddd").fewest(), 2);
    }

    static void promise18_allWishesOfACamMustGo() {
        Due.is("the first and the last do not", withWishes("uuuuuuuuuuuu", "............", "dddddddddddd").fewest(), 2);
        Due.is("the last two do not", withWishes("............", "uuuuuuuuuuuu", "dddddddddddd").fewest(), 2);
        Due.is("the first two do not", withWishes("uuuuuuuuuuuu", "dddddddddddd", "............").fewest(), 2);
        Due.is("each two go, and all three", withWishes("uuuuuuu.....", "dddd........", "dddd........").fewest(), 1);
        String[] three = {"uuuuuuuu....", "ddd.........", "ududu......."};
        for (int k = 0; k < 3; k++) {
            Due.is("two go, all but " + k, withWishes(three[(k + 1) % 3], three[(k + 2) % 3]).fewest(), 1);
        }
        Due.is("all three do not", withWishes(three).fewest(), 2);
    }

    static void promise18_justAsManyAnglesAsThereAre() {
        Due.is("8 and 4", withWishes("uuuuuuuudddd", "uuuuuuuu....", "dddd........").fewest(), 1);
        Due.is("one angle too many", withWishes("uuuuuuuudddd", "uuuuuuuu....", "ddddd.......").fewest(), 2);
    }

    static void promise19_figuresAndWhat() {
        Tried.edges("figure of 5", Plays::full, 0, 4, (x, figure) -> x.share(figure, 0));
        Tried.edges("figure of 2", Plays::small, 0, 1, (x, figure) -> x.share(figure, 1));
        Tried.edges("what", Plays::full, 0, 1, (x, what) -> x.share(2, what));
        Tried.refused("no figures", BAD, Plays::bare, x -> x.share(0, 0));
    }

    private static void isShared(String what, ShaftPlay x, int figure, int cam, int lag) {
        Due.is(what + ": cam", x.share(figure, 0), cam);
        Due.is(what + ": lag", x.share(figure, 1), lag);
    }

    static void promise19_camsAre0To4() {
        ShaftPlay x = withWishes("dddddddddddd", "uddddddddddd", "uudddddddddd", "uuuddddddddd", "uuuudddddddd");
        for (int figure = 0; figure < 5; figure++) {
            isShared("figure " + figure, x, figure, figure, 0);
        }
    }

    static void promise19_lagsAre0To11() {
        for (int lag = 0; lag < 12; lag++) {
            char[] wish = "dddddddddddd".toCharArray();
            wish[(12 - lag) % 12] = 'u';
            ShaftPlay x = withWishes("uddddddddddd", new String(wish));
            isShared("the first is by 0", x, 0, 0, 0);
            isShared("the second by " + lag, x, 1, 0, lag);
        }
    }

    static void promise19_theFirstOfEachCamIsBy0() {
        ShaftPlay x = withWishes("uddddddddddd", "dddudddddddu", "udddudddd...");
        isShared("the first of cam 0", x, 0, 0, 0);
        isShared("the first of cam 1", x, 1, 1, 0);
        isShared("the second of cam 1, by a lag over 11", x, 2, 1, 11);
    }

    static void promise19_theFirstOfLikeRows() {
        ShaftPlay x = withWishes("u...........", "d...........");
        isShared("the least lag that goes", x, 1, 0, 1);
        x = withWishes("uuuuuuuuuuuu", "dddddddddddd", "............");
        isShared("the least cam that goes", x, 2, 0, 0);
        x = withWishes("............", "uuuuuuuuuuuu", "dddddddddddd");
        isShared("an early one takes the first cam", x, 1, 0, 0);
        isShared("a later one the next", x, 2, 1, 0);
    }

    static void promise20_figuresAndWhat() {
        Tried.edges("figure of 5", Plays::full, 0, 4, (x, figure) -> x.pegs(figure, 0));
        Tried.edges("figure of 2", Plays::small, 0, 1, (x, figure) -> x.pegs(figure, 1));
        Tried.edges("what", Plays::full, 0, 1, (x, what) -> x.pegs(2, what));
        Tried.refused("no figures", BAD, Plays::bare, x -> x.pegs(0, 0));
    }

    static void promise20_pegsAre0To12() {
        ShaftPlay x = withFigure("444444444444");
        Due.is("nothing is wished", x.pegs(0, 0), 0);
        Due.wish(x, 0, "uuuuuuuuuuuu");
        Due.is("all, 1 below the line", x.pegs(0, 0), 12);
        x.line(4);
        Due.is("none, at the line", x.pegs(0, 0), 0);
        Due.wish(x, 0, "dddddddddddd");
        Due.is("all, at the line", x.pegs(0, 0), 12);
        Due.is("of like ones the least lag", x.pegs(0, 1), 0);
        x.line(5);
        Due.is("none, 1 below the line", x.pegs(0, 0), 0);
    }

    static void promise20_lagsAre0To11() {
        for (int lag = 0; lag < 12; lag++) {
            char[] wish = "dddddddddddd".toCharArray();
            wish[(12 - lag) % 12] = 'u';
            ShaftPlay x = withFigure("900000000000");
            Due.wish(x, 0, new String(wish));
            Due.is("pegs by " + lag, x.pegs(0, 0), 0);
            Due.is("lag " + lag, x.pegs(0, 1), lag);
        }
    }

    static void promise20_theLeastOfLikeLags() {
        ShaftPlay x = withFigure("900000900000");
        Due.wish(x, 0, "..u.........");
        Due.is("of 4 and 10", x.pegs(0, 1), 4);
        Due.wish(x, 0, "........u...");
        Due.is("of 4 and 10, over 11", x.pegs(0, 1), 4);
        Due.wish(x, 0, "...........u");
        Due.is("of 1 and 7, over 11", x.pegs(0, 1), 1);
    }

    static void promise20_itsKindAndLagDoNotCount() {
        for (int kind = 0; kind < 4; kind++) {
            ShaftPlay x = Due.withCams("430000000000");
            x.figure(kind, 0, 11, 0);
            Due.wish(x, 0, "uu..........");
            Due.is("kind " + kind + ": pegs", x.pegs(0, 0), 2);
            Due.is("kind " + kind + ": lag", x.pegs(0, 1), 0);
        }
    }
}
