/** Promises 1 to 11. */
public final class CamsAndFiguresTest {
    private static final int[] OUTSIDE = {Integer.MIN_VALUE, -2, -1, 99, 1000, Integer.MAX_VALUE};

    public static void main(String[] args) throws IllegalAccessException {
        Cases.run(CamsAndFiguresTest.class);
    }

    static void promise01_bareShaft() {
        ShaftPlay x = new ShaftPlay();
        for (int what = 0; what <= 5; what++) {
            Due.is("bare count(" + what + ")", x.count(what), 0);
        }
        Due.is("bare line", x.line(5), 5);
        Due.is("bare way", x.way(0), 0);
        Due.is("bare restore", x.restore(), ShaftPlay.NONE);
        for (int angle = 0; angle < 12; angle++) {
            Due.is("bare beats", x.beats(angle, 1), 1);
            Due.is("bare when", x.when(angle), angle);
        }
        for (int k = 0; k < 4; k++) {
            Due.is("bare hand", x.hand(k, 1023), 1023);
            Due.is("bare drop", x.drop(k), ShaftPlay.NULL);
        }
        Due.is("bare tape", x.type('1', 1), 1);
        ShaftPlay other = new ShaftPlay();
        Due.is("objects have tapes of their own", other.type('1', 1), 1);
    }

    static void promise02_typing() {
        ShaftPlay x = new ShaftPlay();
        Due.is("one byte", x.type('1', 1), 1);
        Due.is("the lowest bytes alone", x.type(0x0102030405003132L, 2), 3);
        Due.is("eight bytes, the highest first", x.type(Due.packed("34567890"), 8), 11);
        Due.is("the twelfth", x.type('9', 1), 12);
        Due.is("cam of all", x.cam(), 0);
        Due.hairsAre("order of bytes", x, 0, "112345678909");
        Due.is("a byte 32 counts on the tape", x.type(Due.packed("  "), 2), 2);
        Due.is("least and greatest byte", x.type(32L << 8 | 126, 2), 4);
    }

    static void promise02_badBytes() {
        ShaftPlay x = new ShaftPlay();
        for (int n : new int[] {Integer.MIN_VALUE, -1, 0, 9, Integer.MAX_VALUE}) {
            Due.is("type n " + n, x.type(Due.packed("11111111"), n), ShaftPlay.BAD);
        }
        for (int b : new int[] {0, 31, 127, 128, 255}) {
            Due.is("type byte " + b, x.type(b, 1), ShaftPlay.BAD);
            Due.is("type lowest byte " + b, x.type('1' << 8 | b, 2), ShaftPlay.BAD);
            Due.is("type highest byte " + b, x.type((long) b << 56 | Due.packed("1111111"), 8), ShaftPlay.BAD);
        }
        Due.is("nothing came", x.type('1', 1), 1);
        Due.is("a bad byte above the n lowest", x.type(-1L << 8 | '1', 1), 2);
        Due.is("a negative long", x.type(-1L, 8), ShaftPlay.BAD);
    }

    static void promise02_fullTape() {
        ShaftPlay x = new ShaftPlay();
        for (int k = 1; k <= 4; k++) {
            Due.is("tape", x.type(Due.packed("1 1 1 1 "), 8), 8 * k);
        }
        Due.is("37", x.type(Due.packed("     "), 5), 37);
        Due.is("41 are too many", x.type(Due.packed("1111"), 4), ShaftPlay.FULL);
        Due.is("BAD ahead of FULL", x.type(31, 8), ShaftPlay.BAD);
        Due.is("40", x.type(Due.packed("   "), 3), 40);
        Due.is("41", x.type('1', 1), ShaftPlay.FULL);
        Due.is("the thirteenth sign's place", x.cam(), -20 - 24);
        Due.is("empty then", x.type('1', 1), 1);
    }

    static void promise03_camsByText() {
        ShaftPlay x = new ShaftPlay();
        Due.is("cam", Due.cam(x, "012345678901"), 0);
        Due.hairsAre("cam 0", x, 0, "012345678901");
        Due.is("cam with blanks", Due.cam(x, " 9 8 7 6 5 4 3 2 1 0 9 8  "), 1);
        Due.hairsAre("cam 1", x, 1, "987654321098");
        Due.is("count", x.count(0), 2);
        Due.is("tape empty behind a cam", x.cam(), -20);
    }

    static void promise03_camFaults() {
        ShaftPlay x = new ShaftPlay();
        Due.is("empty", x.cam(), -20);
        Due.is("blanks alone", Due.cam(x, "   "), -23);
        Due.is("too short", Due.cam(x, "01234567890"), -31);
        Due.is("too short, blanks behind", Due.cam(x, "01234567890 "), -32);
        Due.is("too long", Due.cam(x, "0123456789012"), -32);
        Due.is("blanks, too long", Due.cam(x, "012345678901  2"), -34);
        Due.is("the byte below 0", Due.cam(x, "/12345678901"), -20);
        Due.is("the byte above 9", Due.cam(x, "01234:678901"), -25);
        Due.is("behind blanks", Due.cam(x, "  0 u"), -24);
        Due.is("a wish's sign", Due.cam(x, "............"), -20);
        Due.is("the first of two faults", Due.cam(x, "0x2x"), -21);
        Due.is("empty by a fault", x.type('1', 1), 1);
        Due.is("no cam came", x.count(0), 0);
    }

    static void promise03_camsFull() {
        ShaftPlay x = new ShaftPlay();
        for (int cam = 0; cam < 6; cam++) {
            Due.is("cam", Due.cam(x, "11111111111" + cam), cam);
        }
        Due.is("the seventh", Due.cam(x, "111111111111"), ShaftPlay.FULL);
        Due.is("empty by FULL", x.type('1', 1), 1);
        Due.is("a fault ahead of FULL", x.cam(), -21);
        Due.is("six", x.count(0), 6);
        Due.hairsAre("the last one", x, 5, "111111111115");
    }

    static void promise04_cutting() {
        ShaftPlay x = Due.withCams("012345678901", "000000000000");
        Due.is("cut", x.cut(0, 3, 9), 3);
        Due.is("cut again", x.cut(0, 3, 0), 9);
        Due.is("cut at 11", x.cut(0, 11, 9), 1);
        Due.is("cut at 0", x.cut(0, 0, 1), 0);
        Due.is("told", x.told(0, 4), 4);
        Due.hairsAre("cut cam", x, 0, "112045678909");
        Due.hairsAre("the other cam", x, 1, "000000000000");
    }

    static void promise04_badCuts() {
        ShaftPlay x = Due.withCams("012345678901", "000000000000");
        for (int v : OUTSIDE) {
            Due.is("cut cam", x.cut(v, 0, 0), ShaftPlay.BAD);
            Due.is("cut angle", x.cut(0, v, 0), ShaftPlay.BAD);
            Due.is("cut v", x.cut(0, 0, v), ShaftPlay.BAD);
            Due.is("told cam", x.told(v, 0), ShaftPlay.BAD);
            Due.is("told angle", x.told(0, v), ShaftPlay.BAD);
        }
        Due.is("cut no cam", x.cut(2, 0, 0), ShaftPlay.BAD);
        Due.is("cut angle 12", x.cut(0, 12, 0), ShaftPlay.BAD);
        Due.is("cut 10", x.cut(0, 0, 10), ShaftPlay.BAD);
        Due.is("told no cam", x.told(2, 0), ShaftPlay.BAD);
        Due.is("told angle 12", x.told(0, 12), ShaftPlay.BAD);
        Due.hairsAre("not cut", x, 0, "012345678901");
    }

    static void promise06_figures() {
        ShaftPlay x = Due.withCams("012345678901", "900000000000");
        Due.is("figure", x.figure(0, 0, 0, 0), 0);
        Due.is("figure", x.figure(3, 1, 11, 3), 1);
        Due.is("its cam, lag, kind", x.height(1, 1), 19);
        Due.is("its place", x.set(1, 3, 0), 3);
        for (int k = 2; k < 5; k++) {
            Due.is("figure", x.figure(1, 0, 0, 0), k);
        }
        Due.is("the sixth", x.figure(1, 0, 0, 0), ShaftPlay.FULL);
        Due.is("BAD ahead of FULL", x.figure(4, 0, 0, 0), ShaftPlay.BAD);
        Due.is("five", x.count(1), 5);
    }

    static void promise06_badFigures() {
        ShaftPlay x = new ShaftPlay();
        Due.is("no cam", x.figure(0, 0, 0, 0), ShaftPlay.BAD);
        Due.cam(x, "012345678901");
        for (int v : OUTSIDE) {
            Due.is("figure kind", x.figure(v, 0, 0, 0), ShaftPlay.BAD);
            Due.is("figure cam", x.figure(0, v, 0, 0), ShaftPlay.BAD);
            Due.is("figure lag", x.figure(0, 0, v, 0), ShaftPlay.BAD);
            Due.is("figure place", x.figure(0, 0, 0, v), ShaftPlay.BAD);
        }
        Due.is("kind 4", x.figure(4, 0, 0, 0), ShaftPlay.BAD);
        Due.is("cam 1", x.figure(0, 1, 0, 0), ShaftPlay.BAD);
        Due.is("lag 12", x.figure(0, 0, 12, 0), ShaftPlay.BAD);
        Due.is("place 4", x.figure(0, 0, 0, 4), ShaftPlay.BAD);
        Due.is("none came", x.count(1), 0);
    }

    static void promise07_setting() {
        ShaftPlay x = Due.withCams("012345678901", "900000000000");
        x.figure(0, 0, 0, 0);
        x.figure(1, 0, 1, 1);
        Due.is("kind", x.set(0, 0, 3), 0);
        Due.is("cam", x.set(0, 1, 1), 0);
        Due.is("lag", x.set(0, 2, 11), 0);
        Due.is("place", x.set(0, 3, 3), 0);
        Due.is("height then", x.height(0, 1), 19);
        Due.is("kind was", x.set(0, 0, 0), 3);
        Due.is("cam was", x.set(0, 1, 0), 1);
        Due.is("lag was", x.set(0, 2, 4), 11);
        Due.is("place was", x.set(0, 3, 2), 3);
        Due.is("height then", x.height(0, 1), 5);
        Due.is("the other figure", x.height(1, 1), 4);
        Due.is("the other's place", x.set(1, 3, 1), 1);
    }

    static void promise07_badSettings() {
        ShaftPlay x = Due.withCams("012345678901");
        x.figure(2, 0, 5, 1);
        int[] above = {4, 1, 12, 4};
        for (int what = 0; what < 4; what++) {
            Due.is("v above", x.set(0, what, above[what]), ShaftPlay.BAD);
            Due.is("v below", x.set(0, what, -1), ShaftPlay.BAD);
            Due.is("v far", x.set(0, what, Integer.MIN_VALUE), ShaftPlay.BAD);
        }
        Due.is("what 4", x.set(0, 4, 0), ShaftPlay.BAD);
        Due.is("what -1", x.set(0, -1, 0), ShaftPlay.BAD);
        Due.is("no figure", x.set(1, 0, 0), ShaftPlay.BAD);
        Due.is("figure -1", x.set(-1, 0, 0), ShaftPlay.BAD);
        Due.is("kind stays", x.set(0, 0, 2), 2);
        Due.is("cam stays", x.set(0, 1, 0), 0);
        Due.is("lag stays", x.set(0, 2, 5), 5);
        Due.is("place stays", x.set(0, 3, 1), 1);
    }

    static void promise08_wishes() {
        ShaftPlay x = Due.withCams("900000000000");
        x.figure(0, 0, 0, 0);
        Due.is("nothing at first", x.missed(0), ShaftPlay.NONE);
        Due.is("nothing told", Due.wish(x, 0, "............"), 0);
        Due.is("all told", Due.wish(x, 0, "uddddddddddd"), 12);
        Due.is("kept", x.missed(0), ShaftPlay.NONE);
        Due.is("blanks", Due.wish(x, 0, " u.. ... ... ..d "), 2);
        Due.is("kept", x.missed(0), ShaftPlay.NONE);
        Due.is("a new wish is the whole wish", Due.wish(x, 0, "...........u"), 1);
        Due.is("missed at 11", x.missed(0), 11);
        Due.is("tape empty", x.type('u', 1), 1);
    }

    static void promise08_wishFaults() {
        ShaftPlay x = Due.withCams("900000000000");
        Due.type(x, "uuuu");
        Due.is("no figure", x.wish(0), ShaftPlay.BAD);
        Due.is("no figure", x.wish(-1), ShaftPlay.BAD);
        Due.is("tape stays", x.type('u', 1), 5);
        x.figure(0, 0, 0, 0);
        Due.is("too short", x.wish(0), -25);
        Due.is("empty then", x.wish(0), -20);
        Due.wish(x, 0, ".u..........");
        Due.is("too long", Due.wish(x, 0, "...........ud"), -32);
        Due.is("a digit", Due.wish(x, 0, "..1........."), -22);
        Due.is("a great U", Due.wish(x, 0, "..  U......."), -24);
        Due.is("short, blanks behind", Due.wish(x, 0, "...  "), -25);
        Due.is("the wish stays", x.missed(0), 1);
    }

    static void promise09_lines() {
        ShaftPlay x = Due.withCams("012345678900");
        x.figure(0, 0, 0, 0);
        Due.is("from 5", x.ups(0), 0x3E0);
        Due.is("line 9", x.line(9), 5);
        Due.is("from 9", x.ups(0), 0x200);
        Due.is("line 1", x.line(1), 9);
        Due.is("from 1", x.ups(0), 0x3FE);
        for (int v : OUTSIDE) {
            Due.is("line " + v, x.line(v), ShaftPlay.BAD);
        }
        Due.is("line 0", x.line(0), ShaftPlay.BAD);
        Due.is("line 10", x.line(10), ShaftPlay.BAD);
        Due.is("it stays", x.line(5), 1);
    }

    static void promise10_ways() {
        ShaftPlay x = new ShaftPlay();
        Due.is("backwards", x.way(1), 0);
        x.turn(1);
        Due.is("behind 0 comes 11", x.count(2), 11);
        Due.is("backwards still", x.way(1), 1);
        Due.is("forwards", x.way(0), 1);
        x.turn(2);
        Due.is("behind 11 comes 0", x.count(2), 1);
        for (int v : OUTSIDE) {
            Due.is("way " + v, x.way(v), ShaftPlay.BAD);
        }
        Due.is("way 2", x.way(2), ShaftPlay.BAD);
        Due.is("it stays", x.way(0), 0);
    }

    static void promise11_counts() {
        ShaftPlay x = Due.withCams("990000000000", "900000000000");
        x.figure(0, 0, 0, 0);
        x.figure(0, 1, 0, 0);
        x.figure(0, 0, 11, 0);
        Due.is("cams", x.count(0), 2);
        Due.is("figures", x.count(1), 3);
        Due.is("up at 0", x.count(5), 3);
        x.turn(1);
        Due.is("up at 1", x.count(5), 5);
        x.way(1);
        x.turn(600);
        Due.is("angle", x.count(2), 1);
        x.turn(3);
        Due.is("angle", x.count(2), 10);
        Due.is("way", x.count(3), 1);
        Due.is("passed either way", x.count(4), 604);
        Due.is("none up", x.count(5), 0);
        x.cut(0, 10, 5);
        Due.is("up on the line itself", x.count(5), 1);
        x.cut(0, 10, 4);
        Due.is("not below it", x.count(5), 0);
        for (int v : OUTSIDE) {
            Due.is("count " + v, x.count(v), ShaftPlay.BAD);
        }
        Due.is("count 6", x.count(6), ShaftPlay.BAD);
    }
}
