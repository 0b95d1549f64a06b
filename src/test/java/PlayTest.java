/** Promises 12 to 20. */
public final class PlayTest {
    public static void main(String[] args) throws IllegalAccessException {
        Cases.run(PlayTest.class);
    }

    private static void heightsAre(String what, ShaftPlay x, int figure, int... want) {
        for (int angle = 0; angle < 12; angle++) {
            Due.is(what + " at " + angle, x.height(figure, angle), want[angle]);
        }
    }

    static void promise12_straightAndDoubled() {
        ShaftPlay x = Due.withCams("012345678912");
        x.figure(0, 0, 0, 0);
        x.figure(1, 0, 11, 0);
        heightsAre("straight", x, 0, 0, 1, 2, 3, 4, 5, 6, 7, 8, 9, 1, 2);
        heightsAre("doubled", x, 1, 4, 0, 2, 4, 6, 8, 10, 12, 14, 16, 18, 2);
        Due.is("angle 12", x.height(0, 12), ShaftPlay.BAD);
        Due.is("angle -1", x.height(0, -1), ShaftPlay.BAD);
        Due.is("no figure", x.height(2, 0), ShaftPlay.BAD);
        Due.is("figure -1", x.height(-1, 0), ShaftPlay.BAD);
        Due.is("far", x.height(Integer.MAX_VALUE, Integer.MIN_VALUE), ShaftPlay.BAD);
    }

    static void promise12_slow() {
        ShaftPlay x = Due.withCams("900000000000", "000000800000", "100000000009");
        x.figure(2, 0, 0, 0);
        x.figure(2, 1, 2, 0);
        x.figure(2, 2, 0, 0);
        heightsAre("slow forwards", x, 0, 9, 8, 7, 6, 5, 4, 3, 2, 1, 0, 0, 0);
        heightsAre("slow by a lag", x, 1, 0, 0, 0, 0, 8, 7, 6, 5, 4, 3, 2, 1);
        heightsAre("slow over 11", x, 2, 8, 7, 6, 5, 4, 3, 2, 1, 0, 0, 0, 9);
        x.way(1);
        heightsAre("slow backwards", x, 0, 9, 0, 0, 0, 1, 2, 3, 4, 5, 6, 7, 8);
        heightsAre("slow backwards by a lag", x, 1, 4, 5, 6, 7, 8, 0, 0, 0, 0, 1, 2, 3);
    }

    static void promise12_living() {
        ShaftPlay x = Due.withCams("312210000000");
        x.figure(3, 0, 0, 0);
        heightsAre("living forwards", x, 0, 7, 2, 5, 4, 2, 0, 0, 0, 0, 0, 0, 0);
        x.way(1);
        heightsAre("living backwards", x, 0, 7, 2, 4, 5, 3, 0, 0, 0, 0, 0, 0, 0);
        x.cut(0, 1, 3);
        x.cut(0, 11, 4);
        heightsAre("living backwards over 11", x, 0, 6, 7, 4, 5, 3, 0, 0, 0, 0, 0, 0, 9);
        x.way(0);
        heightsAre("living forwards over 11", x, 0, 6, 6, 4, 4, 2, 0, 0, 0, 0, 0, 0, 9);
    }

    static void promise13_upSets() {
        ShaftPlay x = Due.withCams("900000000000", "333333333334", "540000000005");
        x.figure(2, 0, 0, 0);
        x.figure(1, 1, 0, 0);
        x.figure(0, 2, 0, 0);
        x.figure(3, 2, 0, 0);
        Due.is("slow", x.ups(0), 31);
        Due.is("doubled: all", x.ups(1), 4095);
        Due.is("straight, the line itself", x.ups(2), 2049);
        Due.is("living", x.ups(3), 2051);
        x.way(1);
        Due.is("slow backwards", x.ups(0), 1 + 2048 + 1024 + 512 + 256);
        x.line(9);
        Due.is("slow above 9", x.ups(0), 1);
        Due.is("doubled above 9", x.ups(1), 0);
        Due.is("none straight", x.ups(2), 0);
        Due.is("living backwards above 9", x.ups(3), 2051);
        Due.is("no figure", x.ups(4), ShaftPlay.BAD);
        Due.is("figure -1", x.ups(-1), ShaftPlay.BAD);
    }

    static void promise14_turning() {
        ShaftPlay x = Due.withCams("999900000000", "009999000000");
        x.figure(0, 0, 0, 1);
        x.figure(0, 1, 0, 1);
        Due.is("to 1", x.turn(1), 0);
        Due.is("to 2", x.turn(1), 1);
        Due.is("not where it stood", x.turn(11), 0);
        Due.is("to 2 again", x.turn(1), 1);
        Due.is("once round", x.turn(12), 1);
        Due.is("50 times round", x.turn(600), 50);
        Due.is("passed", x.count(4), 626);
        x.way(1);
        Due.is("backwards from 2", x.turn(10), 0);
        Due.is("at 4", x.count(2), 4);
        Due.is("to 3", x.turn(1), 1);
        Due.is("to 2, but both up at 3", x.turn(1), 0);
        for (int n : new int[] {Integer.MIN_VALUE, -1, 0, 601, Integer.MAX_VALUE}) {
            Due.is("turn " + n, x.turn(n), ShaftPlay.BAD);
        }
        Due.is("not turned", x.count(2) * 1000 + x.count(4), 2638);
    }

    static void promise14_turningManyFigures() {
        ShaftPlay x = Due.withCams("900000000000");
        for (int k = 0; k < 5; k++) {
            x.figure(0, 0, 0, k < 3 ? 0 : 1);
        }
        Due.is("three pairs and one", x.turn(12), 4);
        x.set(3, 3, 0);
        x.set(4, 3, 0);
        Due.is("all ten pairs", x.turn(12), 10);
        x.set(4, 2, 1);
        Due.is("six pairs", x.turn(25), 12);
        Due.is("at 1", x.count(2), 1);
        x = Due.withCams("909090000000");
        x.figure(0, 0, 0, 0);
        x.figure(0, 0, 0, 0);
        Due.is("strikes at 2 and at 4", x.turn(4), 2);
        Due.is("strikes at 0 and at 2", x.turn(10), 2);
        x.turn(1);
        Due.is("strikes at 4 and at 0", x.turn(10), 2);
    }

    static void promise15_striking() {
        ShaftPlay x = Due.withCams("999900000000", "009999000000", "900000000009", "999999999999");
        x.figure(0, 0, 0, 1);
        x.figure(0, 1, 0, 1);
        x.figure(0, 2, 0, 2);
        x.figure(0, 2, 0, 2);
        Due.is("forwards", x.strikes(0, 1), 4);
        Due.is("likewise", x.strikes(1, 0), 4);
        Due.is("over 11", x.strikes(2, 3), 2048);
        Due.is("unlike places", x.strikes(0, 2), 0);
        x.way(1);
        Due.is("backwards", x.strikes(0, 1), 8);
        Due.is("backwards over 11", x.strikes(2, 3), 1);
        x.set(2, 1, 3);
        x.set(3, 1, 3);
        Due.is("always both up", x.strikes(2, 3), 0);
        x.set(2, 3, 1);
        Due.is("one is always up", x.strikes(2, 0), 8);
        Due.is("one alike", x.strikes(1, 1), ShaftPlay.BAD);
        Due.is("no b", x.strikes(0, 4), ShaftPlay.BAD);
        Due.is("no a", x.strikes(4, 0), ShaftPlay.BAD);
        Due.is("a -1", x.strikes(-1, 0), ShaftPlay.BAD);
        Due.is("b -1", x.strikes(0, -1), ShaftPlay.BAD);
    }

    static void promise16_wearing() {
        ShaftPlay x = Due.withCams("900000000000", "300000000000", "222222222225");
        Due.is("one turn", x.wear(1), 3);
        Due.hairsAre("9 less 1", x, 0, "800000000000");
        Due.hairsAre("3 less 1", x, 1, "200000000000");
        Due.hairsAre("behind 11 the first", x, 2, "222222222224");
        Due.is("nine turns", x.wear(9), 1);
        Due.hairsAre("down to 2", x, 0, "200000000000");
        Due.is("worn out", x.wear(9), 0);
        for (int n : new int[] {Integer.MIN_VALUE, -1, 0, 10, Integer.MAX_VALUE}) {
            Due.is("wear " + n, x.wear(n), ShaftPlay.BAD);
        }
        Due.is("no cams", new ShaftPlay().wear(9), 0);
        x = Due.withCams("500000000000", "500000000000", "500000000000", "500000000000", "500000000000",
            "500000000000");
        Due.is("six cams", x.wear(2), 6);
        Due.hairsAre("the last cam", x, 5, "300000000000");
    }

    static void promise16_wearingAllAtOnce() {
        ShaftPlay x = Due.withCams("530000000000", "600000000008");
        x.way(1);
        Due.is("all at once, by numbers", x.wear(1), 2);
        Due.hairsAre("530", x, 0, "520000000000");
        Due.hairsAre("6..8", x, 1, "500000000008");
        Due.is("two turns", x.wear(2), 3);
        Due.hairsAre("420", x, 0, "420000000000");
        Due.hairsAre("3..6", x, 1, "300000000006");
    }

    static void promise17_missing() {
        ShaftPlay x = Due.withCams("900000000000");
        x.figure(2, 0, 11, 0);
        Due.wish(x, 0, "duuuuudddddd");
        Due.is("kept by its kind and lag", x.missed(0), ShaftPlay.NONE);
        x.way(1);
        Due.is("missed backwards", x.missed(0), 0);
        x.way(0);
        x.line(6);
        Due.is("up is asked for", x.missed(0), 5);
        x.line(4);
        Due.is("not up is asked for", x.missed(0), 6);
        Due.wish(x, 0, "...........u");
        Due.is("the last angle", x.missed(0), 11);
        Due.is("no figure", x.missed(1), ShaftPlay.BAD);
        Due.is("figure -1", x.missed(-1), ShaftPlay.BAD);
    }

    private static void sharesAre(String what, ShaftPlay x, int... want) {
        for (int k = 0; k < want.length / 2; k++) {
            Due.is(what + ": cam of " + k, x.share(k, 0), want[2 * k]);
            Due.is(what + ": lag of " + k, x.share(k, 1), want[2 * k + 1]);
        }
    }

    private static ShaftPlay withWishes(String... wishes) {
        ShaftPlay x = Due.withCams("000000000000");
        for (int k = 0; k < wishes.length; k++) {
            x.figure(k % 4, 0, k, 0);
            Due.wish(x, k, wishes[k]);
        }
        return x;
    }

    static void promise18_fewest() {
        Due.is("no figures", new ShaftPlay().fewest(), 0);
        Due.is("one figure", withWishes("uuuuuuuuuuuu").fewest(), 1);
        Due.is("like ones", withWishes("uddddddddddd", "dduddddddddd").fewest(), 1);
        Due.is("unlike ones", withWishes("uddddddddddd", "uudddddddddd").fewest(), 2);
        Due.is("five that ask for nothing", withWishes("............", "............", "............",
            "............", "............").fewest(), 1);
        Due.is("five unlike ones", withWishes("dddddddddddd", "uddddddddddd", "uudddddddddd",
            "uuuddddddddd", "uuuudddddddd").fewest(), 5);
        Due.is("pairs go, three do not", withWishes("uuuuu.......", "ddddd.......", "uuuuu.d.....").fewest(), 1);
        Due.is("eight, eight", withWishes("uuuuuuuu....", "dddd........", "ddddd.......").fewest(), 2);
    }

    static void promise19_sharing() {
        ShaftPlay x = withWishes("uuuuuuuuuuuu", "d...........", "............", "d...........", "u...........");
        sharesAre("the first row", x, 0, 0, 1, 0, 0, 0, 1, 0, 0, 0);
        Due.wish(x, 0, "u...........");
        sharesAre("by a lag", x, 0, 0, 0, 1, 0, 0, 0, 1, 0, 0);
        x = withWishes("d...........", "............", "u...........");
        sharesAre("likewise", x, 0, 0, 0, 0, 0, 1);
        x = withWishes("uddddddddddd", "duddddddddud", "dddddduddddd", "dddduddudddd");
        Due.is("two of two", x.fewest(), 2);
        sharesAre("each cam's first by 0", x, 0, 0, 1, 0, 0, 6, 1, 6);
        sharesAre("a lag of 1", withWishes("u.ud........", "...u.ud....."), 0, 0, 0, 1);
        sharesAre("a lag of 9", withWishes("uddddddddddd", "ddduuddddddd", "dddudddddddd"), 0, 0, 1, 0, 0, 9);
        sharesAre("asked behind itself", withWishes("uddd........", "dddddddddddu"), 0, 0, 0, 1);
        sharesAre("an earlier choice gives way", withWishes("u...........", "d...........", "uuuuuuuuuuud"),
            0, 0, 0, 1, 0, 2);
        sharesAre("a first lag gives way", withWishes("uuuu........", "............", "dduuuuuuuu.."),
            0, 0, 0, 0, 0, 4);
        sharesAre("a cam for each", withWishes("dddddddddddd", "uddddddddddd", "uudddddddddd", "uuuddddddddd",
            "uuuudddddddd"), 0, 0, 1, 0, 2, 0, 3, 0, 4, 0);
        x = withWishes("uuuuuuuuuuuu", "dddddddddddd", "uuuuuuuuuuuu", "dddddddddddd");
        sharesAre("two cams in turns", x, 0, 0, 1, 0, 0, 0, 1, 0);
        Due.wish(x, 0, "dddddddddddd");
        Due.wish(x, 1, "uuuuuuuuuuuu");
        sharesAre("nothing stays of an earlier sharing", x, 0, 0, 1, 0, 1, 0, 0, 0);
        Due.is("of three figures", withWishes("uu..........", "dd..........", "uuu.........").fewest(), 1);
        Due.is("what 2", x.share(0, 2), ShaftPlay.BAD);
        Due.is("what -1", x.share(0, -1), ShaftPlay.BAD);
        Due.is("no figure", x.share(4, 0), ShaftPlay.BAD);
        Due.is("figure -1", x.share(-1, 1), ShaftPlay.BAD);
    }

    private static void pegsAre(String what, ShaftPlay x, int count, int lag) {
        Due.is(what + ": pegs", x.pegs(0, 0), count);
        Due.is(what + ": lag", x.pegs(0, 1), lag);
    }

    static void promise20_pegs() {
        ShaftPlay x = Due.withCams("999000000000");
        x.figure(3, 0, 7, 0);
        pegsAre("nothing wished", x, 0, 0);
        Due.wish(x, 0, "...uuu......");
        pegsAre("by lag 9", x, 0, 9);
        Due.wish(x, 0, "..........uu");
        pegsAre("the least of two lags", x, 0, 2);
        Due.wish(x, 0, "dddddddddddd");
        pegsAre("never up", x, 3, 0);
        Due.wish(x, 0, "uuuuuuuuuuuu");
        pegsAre("always up", x, 9, 0);
        Due.wish(x, 0, "ududududdddd");
        pegsAre("of like ones the least lag", x, 3, 0);
        Due.wish(x, 0, "dddddduuuudd");
        pegsAre("one peg", x, 1, 5);
        Due.is("nothing is cut", x.told(0, 0) + x.told(0, 3), 9);
        Due.is("what 2", x.pegs(0, 2), ShaftPlay.BAD);
        Due.is("what -1", x.pegs(0, -1), ShaftPlay.BAD);
        Due.is("no figure", x.pegs(1, 0), ShaftPlay.BAD);
        Due.is("figure -1", x.pegs(-1, 0), ShaftPlay.BAD);
    }

    static void promise20_pegsByLine() {
        ShaftPlay x = Due.withCams("000000000000", "444000000000");
        x.figure(1, 1, 0, 0);
        Due.wish(x, 0, "u...........");
        pegsAre("4 is below the line", x, 1, 0);
        x.line(4);
        pegsAre("4 is the line", x, 0, 0);
        x.set(0, 1, 0);
        pegsAre("another cam", x, 1, 0);
        Due.wish(x, 0, "uuuuuuuuuuuu");
        pegsAre("all twelve", x, 12, 0);
    }

    static void terms_noFigures() {
        ShaftPlay x = Due.withCams("900000000000");
        Due.is("height", x.height(0, 0), ShaftPlay.BAD);
        Due.is("ups", x.ups(0), ShaftPlay.BAD);
        Due.is("turn", x.turn(600), 0);
        Due.is("strikes", x.strikes(0, 1), ShaftPlay.BAD);
        Due.is("missed", x.missed(0), ShaftPlay.BAD);
        Due.is("fewest", x.fewest(), 0);
        Due.is("share", x.share(0, 0), ShaftPlay.BAD);
        Due.is("pegs", x.pegs(0, 0), ShaftPlay.BAD);
    }
}
