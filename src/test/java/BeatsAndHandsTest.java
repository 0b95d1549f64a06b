/** Promises 21 to 27. */
public final class BeatsAndHandsTest {
    public static void main(String[] args) throws IllegalAccessException {
        Cases.run(BeatsAndHandsTest.class);
    }

    static void promise21_beats() {
        ShaftPlay x = new ShaftPlay();
        Due.is("one at first", x.beats(0, 99), 1);
        Due.is("99", x.beats(0, 1), 99);
        Due.is("angle 11", x.beats(11, 2), 1);
        Due.is("angle 11 was", x.beats(11, 3), 2);
        for (int v : new int[] {Integer.MIN_VALUE, -1, 0, 100, Integer.MAX_VALUE}) {
            Due.is("beats " + v, x.beats(11, v), ShaftPlay.BAD);
        }
        for (int angle : new int[] {Integer.MIN_VALUE, -1, 12, Integer.MAX_VALUE}) {
            Due.is("beats at " + angle, x.beats(angle, 1), ShaftPlay.BAD);
        }
        Due.is("it stays", x.beats(11, 3), 3);
    }

    static void promise22_when() {
        ShaftPlay x = new ShaftPlay();
        x.beats(0, 5);
        x.beats(11, 7);
        x.beats(2, 99);
        Due.is("it stands there", x.when(0), 0);
        Due.is("the next one", x.when(1), 5);
        Due.is("over two", x.when(3), 105);
        Due.is("the last one", x.when(11), 113);
        x.way(1);
        Due.is("backwards, the next one", x.when(11), 5);
        Due.is("backwards", x.when(10), 12);
        Due.is("backwards, the last one", x.when(1), 5 + 7 + 8 + 99);
        x.turn(1);
        Due.is("from where it stands", x.when(10), 7);
        Due.is("stands there", x.when(11), 0);
        x.way(0);
        Due.is("forwards over 11", x.when(0), 7);
        for (int angle : new int[] {Integer.MIN_VALUE, -1, 12, Integer.MAX_VALUE}) {
            Due.is("when " + angle, x.when(angle), ShaftPlay.BAD);
        }
    }

    static void promise23_at() {
        ShaftPlay x = new ShaftPlay();
        x.beats(0, 5);
        x.beats(1, 2);
        x.beats(11, 3);
        Due.is("now", x.at(0), 0);
        Due.is("the last beat at 0", x.at(4), 0);
        Due.is("then at 1", x.at(5), 1);
        Due.is("still at 1", x.at(6), 1);
        Due.is("at 2", x.at(7), 2);
        Due.is("at 11", x.at(16), 11);
        Due.is("the last beat at 11", x.at(18), 11);
        Due.is("round", x.at(19), 0);
        x.way(1);
        Due.is("backwards still at 0", x.at(4), 0);
        Due.is("backwards at 11", x.at(5), 11);
        Due.is("backwards at 10", x.at(8), 10);
        Due.is("backwards at 1", x.at(18), 1);
        x.turn(1);
        Due.is("from where it stands", x.at(3), 10);
        for (int b : new int[] {Integer.MIN_VALUE, -1, 100000, Integer.MAX_VALUE}) {
            Due.is("at " + b, x.at(b), ShaftPlay.BAD);
        }
        Due.is("nothing goes on", x.count(2) * 10 + x.count(4), 111);
    }

    static void promise23_atLongAfter() {
        ShaftPlay x = new ShaftPlay();
        Due.is("99999 of single beats", x.at(99999), 3);
        for (int angle = 0; angle < 12; angle++) {
            x.beats(angle, 99);
        }
        Due.is("99999 of 99 beats", x.at(99999), 2);
        Due.is("1188 is a turn", x.at(1188), 0);
        Due.is("1187", x.at(1187), 11);
    }

    static void promise24_hands() {
        ShaftPlay x = new ShaftPlay();
        for (int hand = 0; hand < 4; hand++) {
            Due.is("all at first", x.hand(hand, hand), 1023);
            Due.is("what it was", x.hand(hand, 1023), hand);
        }
        for (int hand : new int[] {Integer.MIN_VALUE, -1, 4, Integer.MAX_VALUE}) {
            Due.is("hand " + hand, x.hand(hand, 0), ShaftPlay.BAD);
        }
        for (int steps : new int[] {Integer.MIN_VALUE, -1, 1024, Integer.MAX_VALUE}) {
            Due.is("steps " + steps, x.hand(3, steps), ShaftPlay.BAD);
        }
        Due.is("it stays", x.hand(3, 0), 1023);
        Due.is("no step", x.hand(3, 0), 0);
    }

    static void promise25_whose() {
        ShaftPlay x = Due.withCams("012345678999", "444444444444", "900000000000");
        Due.is("all hands at first", x.whose(0), 15);
        x.hand(0, 3);
        x.hand(1, 515);
        x.hand(2, 513);
        x.hand(3, 0);
        Due.is("the step from 11 to 0 too", x.whose(0), 2);
        Due.is("step 0 alone", x.whose(1), 7);
        Due.is("steps up and down alike", x.whose(2), 6);
        x.cut(1, 11, 5);
        Due.is("steps 0 and 1", x.whose(1), 3);
        x.hand(3, 1);
        Due.is("not all steps", x.whose(1), 3);
        x.hand(2, 512);
        Due.cam(x, "090909090909");
        Due.is("step 9 alone", x.whose(3), 6);
        x.cut(3, 0, 8);
        Due.is("steps 1 beside it", x.whose(3), 2);
        x.cut(3, 0, 7);
        Due.is("steps 2 beside it", x.whose(3), 0);
        Due.cam(x, "123456788885");
        x.hand(0, 19);
        Due.is("step 4 from 11 to 0, step 3 from 10 to 11", x.whose(4), 0);
        x.hand(0, 27);
        Due.is("all of them", x.whose(4), 1);
        for (int cam : new int[] {Integer.MIN_VALUE, -1, 5, 6, Integer.MAX_VALUE}) {
            Due.is("whose " + cam, x.whose(cam), ShaftPlay.BAD);
        }
    }

    static void promise26_image() {
        ShaftPlay x = Due.withCams("900000000000");
        Due.is("none yet", x.restore(), ShaftPlay.NONE);
        Due.is("image", x.image(), 1);
        x.cut(0, 11, 7);
        Due.cam(x, "111111111111");
        x.line(9);
        x.way(1);
        x.turn(13);
        x.beats(11, 50);
        x.hand(3, 1);
        Due.is("restore", x.restore(), 1);
        Due.is("cams", x.count(0), 1);
        Due.hairsAre("hairs", x, 0, "900000000000");
        Due.is("angle", x.count(2), 0);
        Due.is("way", x.count(3), 0);
        Due.is("passed", x.count(4), 0);
        Due.is("line", x.line(3), 5);
        Due.is("beats", x.beats(11, 2), 1);
        Due.is("hands", x.hand(3, 2), 1023);
        Due.is("a second restore", x.restore(), 1);
        Due.is("line again", x.line(3), 5);
        Due.is("a newer image", x.image(), 1);
        x.line(8);
        x.restore();
        Due.is("the newer one counts", x.line(3), 3);
    }

    static void promise26_imageOfFigures() {
        ShaftPlay x = Due.withCams("900000000000", "000000000009");
        x.figure(1, 1, 3, 2);
        Due.wish(x, 0, "u...........");
        x.image();
        x.set(0, 0, 0);
        x.set(0, 1, 0);
        x.set(0, 2, 0);
        x.set(0, 3, 0);
        Due.wish(x, 0, "............");
        x.figure(0, 0, 0, 0);
        Due.wish(x, 1, ".u..........");
        x.restore();
        Due.is("figures", x.count(1), 1);
        Due.is("height", x.height(0, 8), 18);
        Due.is("wish", x.missed(0), 0);
        x.cut(1, 11, 0);
        Due.wish(x, 0, "............");
        Due.wish(x, 0, ".......ud...");
        x.image();
        Due.wish(x, 0, "............");
        x.restore();
        Due.is("wish to be up", x.missed(0), 7);
        x.cut(1, 10, 9);
        x.cut(1, 11, 9);
        Due.is("wish not to be up", x.missed(0), 8);
        Due.is("kind", x.set(0, 0, 0), 1);
        Due.is("cam", x.set(0, 1, 0), 1);
        Due.is("lag", x.set(0, 2, 0), 3);
        Due.is("place", x.set(0, 3, 0), 2);
        Due.is("a figure comes again", x.figure(0, 0, 0, 0), 1);
        Due.is("its wish is nothing", x.missed(1), ShaftPlay.NONE);
        Due.is("fewest of what is now", x.fewest(), 1);
        x.set(0, 2, 5);
        Due.is("what comes later leaves the image alone", x.restore(), 1);
        Due.is("lag", x.set(0, 2, 0), 3);
    }

    static void promise27_imageLeavesTapeAndSheets() {
        ShaftPlay x = new ShaftPlay();
        x.sheet(0, 1, 3);
        x.type('1', 1);
        x.image();
        x.type('2', 1);
        x.sheet(0, 2, 5);
        x.sheet(1, 0, 7);
        x.restore();
        Due.is("the tape goes on", x.type('3', 1), 3);
        Due.is("sheet 0 as it is", x.item(0, 2, 4, 1), 1);
        Due.is("sheet 0", x.drop(0), 5);
        Due.is("sheet 1", x.drop(1), 7);
        x.restore();
        Due.is("dropped", x.drop(0), ShaftPlay.NULL);
    }
}
