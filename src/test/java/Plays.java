/** Objects that are made in the same way each time, so that one can be tried and compared with another. */
final class Plays {
    /** Bytes that are a wish, and as many as the tape has room for. */
    private static final String FULL_TAPE = "  uudd ....uu.d                         ";

    private Plays() {
    }

    static ShaftPlay bare() {
        return new ShaftPlay();
    }

    /** Two cams, two figures, a wish on the tape, a row of longs; no image. */
    static ShaftPlay small() {
        ShaftPlay x = smallWithEmptyTape();
        Due.type(x, "ddd.u...uuuu ");
        return x;
    }

    static ShaftPlay smallWithEmptyTape() {
        ShaftPlay x = Due.withCams("990000000000", "123456789012");
        x.figure(0, 0, 0, 0);
        x.figure(3, 1, 5, 0);
        Due.wish(x, 1, "u..d........");
        row(x, 2, 2, 3);
        return x;
    }

    /** All is full: six cams, five figures, forty bytes, a row of 24 items; sheet 3 alone holds nothing. */
    static ShaftPlay full() {
        ShaftPlay x = fullWithEmptyTape();
        Due.type(x, FULL_TAPE);
        return x;
    }

    /** As the full one, but for its tape. */
    static ShaftPlay fullWithEmptyTape() {
        ShaftPlay x = withAnImage();
        String[] cams = {"905070301020", "111111111111", "999990000000", "123456789876", "000000000009"};
        for (String digits : cams) {
            Due.cam(x, digits);
        }
        for (int k = 1; k < 5; k++) {
            x.figure(k % 4, k + 1, 3 * k - 1, k % 3);
        }
        Due.wish(x, 0, "dd.........u");
        Due.wish(x, 3, "uuuuuudddddd");
        Due.wish(x, 4, ".....ud.....");
        x.line(4);
        x.way(1);
        x.turn(17);
        x.beats(0, 99);
        x.beats(11, 2);
        x.hand(0, 0);
        x.hand(3, 514);
        row(x, 0, 0, 24);
        row(x, 1, 1, 6);
        row(x, 2, 2, 5);
        return x;
    }

    /** A cam and a figure, and an image of them that is unlike all that comes later. */
    static ShaftPlay withAnImage() {
        ShaftPlay x = Due.withCams("333221100456");
        x.figure(2, 0, 7, 3);
        Due.wish(x, 0, "..uudd......");
        x.line(7);
        x.turn(5);
        x.beats(6, 13);
        x.hand(1, 77);
        x.image();
        return x;
    }

    /** One figure; rows of 24, 6 and 0 ints; sheet 3 holds nothing. */
    static ShaftPlay withRows() {
        ShaftPlay x = Due.withCams("900000000000");
        x.figure(0, 0, 0, 0);
        row(x, 0, 1, 24);
        row(x, 1, 1, 6);
        row(x, 2, 1, 0);
        return x;
    }

    /** A row whose items are one angle each: View knows which. */
    static void row(ShaftPlay x, int sheet, int lane, int n) {
        x.sheet(sheet, lane, n);
        for (int i = 0; i < n; i++) {
            x.item(sheet, lane, i, 1 << angleOfItem(sheet, i));
        }
    }

    static int angleOfItem(int sheet, int i) {
        return (i + 3 * sheet) % 12;
    }
}
