/** What calls tell of an object, as a text; the object is used up by it. */
final class View {
    private View() {
    }

    /** All that an image keeps. */
    static String ofPlay(ShaftPlay x) {
        StringBuilder told = new StringBuilder("counts");
        for (int what = 0; what <= 5; what++) {
            told.append(' ').append(x.count(what));
        }
        for (int cam = 0; cam < x.count(0); cam++) {
            told.append(" cam ").append(Due.hairs(x, cam));
        }
        told.append(" line ").append(x.line(5)).append(" beats");
        for (int angle = 0; angle < 12; angle++) {
            told.append(' ').append(x.beats(angle, 1));
        }
        told.append(" hands");
        for (int hand = 0; hand < 4; hand++) {
            told.append(' ').append(x.hand(hand, 0));
        }
        for (int figure = 0; figure < x.count(1); figure++) {
            told.append(" figure").append(ofFigure(x, figure));
        }
        return told.toString();
    }

    static String ofImage(ShaftPlay x) {
        return x.restore() + " " + ofPlay(x);
    }

    static String ofTapeAndSheets(ShaftPlay x) {
        StringBuilder told = new StringBuilder("tape ");
        told.append(x.type(' ', 1)).append(' ');
        if (x.count(1) > 0) {
            told.append(x.wish(0)).append(' ').append(wish(x, 0));
        } else {
            told.append(x.cam());
        }
        hangAllOnCam0(x);
        for (int sheet = 0; sheet < 4; sheet++) {
            told.append(" sheet ").append(ofSheet(x, sheet));
        }
        return told.toString();
    }

    private static String ofFigure(ShaftPlay x, int figure) {
        StringBuilder told = new StringBuilder();
        for (int what = 0; what < 4; what++) {
            told.append(' ').append(x.set(figure, what, 0));
        }
        return told.append(' ').append(wish(x, figure)).toString();
    }

    /** A wish, sign by sign: what is missed is told, and then cut, till nothing is missed. */
    private static String wish(ShaftPlay x, int figure) {
        char[] signs = "............".toCharArray();
        for (int what = 0; what < 3; what++) {
            x.set(figure, what, 0);
        }
        x.line(5);
        findSigns(x, figure, signs, 'u');
        findSigns(x, figure, signs, 'd');
        return new String(signs);
    }

    private static void findSigns(ShaftPlay x, int figure, char[] signs, char sign) {
        int missing = sign == 'u' ? 0 : 9;
        cutAll(x, missing);
        for (int n = 0; n < 12; n++) {
            int angle = x.missed(figure);
            if (angle < 0) {
                return;
            }
            signs[angle] = sign;
            x.cut(0, angle, 9 - missing);
        }
    }

    private static void cutAll(ShaftPlay x, int v) {
        for (int angle = 0; angle < 12; angle++) {
            x.cut(0, angle, v);
        }
    }

    /** Then a figure is up at one angle, and its lag says at which. */
    private static void hangAllOnCam0(ShaftPlay x) {
        if (x.count(0) == 0) {
            Due.cam(x, "000000000000");
        }
        if (x.count(1) == 0) {
            x.figure(0, 0, 0, 0);
        }
        cutAll(x, 0);
        x.cut(0, 0, 9);
        x.line(9);
        for (int figure = 0; figure < x.count(1); figure++) {
            x.set(figure, 0, 0);
            x.set(figure, 1, 0);
        }
    }

    /** By the lane: whether the items from each place on are as Plays made them, or what is refused. */
    private static String ofSheet(ShaftPlay x, int sheet) {
        int figures = x.count(1);
        StringBuilder told = new StringBuilder();
        for (int lane = 0; lane < 3; lane++) {
            int found = 0;
            for (int i = 0; i <= 24 && found >= 0; i++) {
                found = isAsMade(x, figures, sheet, lane, i);
                told.append(found).append(' ');
            }
        }
        return told.append("of ").append(x.drop(sheet)).toString();
    }

    private static int isAsMade(ShaftPlay x, int figures, int sheet, int lane, int i) {
        for (int figure = 0; figure < figures; figure++) {
            x.set(figure, 2, (12 - Plays.angleOfItem(sheet, i + figure)) % 12);
        }
        int found = x.worn(9, sheet, lane, i);
        return found < 0 ? found : found >> 6;
    }
}
