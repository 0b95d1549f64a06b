/** Promises 28 to 33. */
public final class SheetsTest {
    public static void main(String[] args) throws IllegalAccessException {
        Cases.run(SheetsTest.class);
    }

    private static void tell(ShaftPlay x, int... sets) {
        x.sheet(0, 1, sets.length);
        for (int i = 0; i < sets.length; i++) {
            x.item(0, 1, i, sets[i]);
        }
    }

    /** Cuts the one figure's cam so that it is up at just these angles, and asks whether item i tells so. */
    private static boolean holds(ShaftPlay x, int sheet, int lane, int i, int set) {
        for (int angle = 0; angle < 12; angle++) {
            x.cut(0, angle, (set >> angle & 1) * 9);
        }
        return (x.worn(1, sheet, lane, i) & 64) != 0;
    }

    private static void rowIs(String what, ShaftPlay x, int sheet, int lane, int... sets) {
        for (int i = 0; i < sets.length; i++) {
            Due.is(what + ": item " + i, holds(x, sheet, lane, i, sets[i]) ? 1 : 0, 1);
            Due.is(what + ": another", holds(x, sheet, lane, i, sets[i] ^ 2048) ? 1 : 0, 0);
        }
    }

    private static ShaftPlay withOneFigure() {
        ShaftPlay x = Due.withCams("000000000000");
        x.figure(0, 0, 0, 0);
        return x;
    }

    static void promise28_worn() {
        ShaftPlay x = Due.withCams("765000000000", "765000000000", "999999999999");
        x.figure(0, 0, 0, 0);
        x.figure(0, 1, 0, 0);
        tell(x, 7, 7);
        Due.is("as all is; a cam with no figure", x.worn(9, 0, 1, 0), 64 + 4);
        tell(x, 3, 7);
        Due.is("cam 0 by 1", x.worn(1, 0, 1, 0), 1);
        Due.is("not by 2", x.worn(2, 0, 1, 0), 0);
        tell(x, 7, 1);
        Due.is("cam 1 by 2", x.worn(2, 0, 1, 0), 2);
        tell(x, 1, 1);
        Due.is("never two cams", x.worn(2, 0, 1, 0), 0);
        x.set(1, 1, 0);
        Due.is("figures on one cam", x.worn(2, 0, 1, 0), 1);
        tell(x, 0, 0);
        Due.is("by 3", x.worn(3, 0, 1, 0), 1);
        Due.is("by 9", x.worn(9, 0, 1, 0), 1);
        Due.hairsAre("nothing wears", x, 0, "765000000000");
        x.line(1);
        tell(x, 1, 1);
        Due.is("0 at least", x.worn(6, 0, 1, 0), 1);
    }

    static void promise28_wornByKinds() {
        ShaftPlay x = Due.withCams("900000000000", "310000000000");
        x.figure(2, 0, 0, 0);
        x.figure(3, 1, 1, 1);
        Due.is("ups", x.ups(0) * 10000 + x.ups(1), 312048);
        tell(x, 7, 2048);
        Due.is("slow by 2", x.worn(2, 0, 1, 0), 1);
        x.way(1);
        tell(x, 1 + 2048, 2048);
        Due.is("slow backwards by 3", x.worn(3, 0, 1, 0), 1);
        tell(x, 1 + 2048 + 1024 + 512 + 256, 2048);
        x.line(5);
        Due.is("living by 1: 4 and 1 more", x.worn(1, 0, 1, 0), 64 + 2);
        x.line(4);
        Due.is("slow is up one longer", x.worn(1, 0, 1, 0), 1);
    }

    static void promise28_wornWithoutFigures() {
        ShaftPlay x = new ShaftPlay();
        x.sheet(0, 0, 0);
        Due.is("nothing to be told", x.worn(1, 0, 0, 0), 64);
        Due.cam(x, "000000000000");
        Due.cam(x, "999999999999");
        Due.is("any cam", x.worn(1, 0, 0, 0), 64 + 3);
        Due.is("INDEX, though none is taken", x.worn(1, 0, 0, 1), ShaftPlay.INDEX);
        Due.is("INDEX below 0", x.worn(1, 0, 0, -1), ShaftPlay.INDEX);
        x.sheet(0, 0, 24);
        Due.is("behind the last", x.worn(9, 0, 0, 24), 64 + 3);
        Due.is("above", x.worn(9, 0, 0, 25), ShaftPlay.INDEX);
    }

    static void promise28_wornItems() {
        ShaftPlay x = Due.withCams("900000000009");
        x.figure(0, 0, 0, 0);
        x.sheet(0, 2, 3);
        x.item(0, 2, 1, 2049);
        Due.is("from item 1 on", x.worn(4, 0, 2, 1), 64 + 1);
        for (int bit = 12; bit < 64; bit++) {
            x.item(0, 2, 2, 2049 | 1L << bit);
            Due.is("any other bit: " + bit, x.worn(4, 0, 2, 2), 0);
        }
        x.item(0, 2, 2, -1L);
        Due.is("all bits", x.worn(4, 0, 2, 2), 0);
        x.cut(0, 0, 4);
        x.cut(0, 11, 0);
        x.item(0, 2, 2, 1L << 40);
        Due.is("an other bit alone", x.worn(4, 0, 2, 2), 0);
    }

    static void promise28_wornRefused() {
        ShaftPlay x = Due.withCams("900000000000");
        x.figure(0, 0, 0, 0);
        x.figure(0, 0, 0, 0);
        x.sheet(0, 1, 4);
        for (int w : new int[] {Integer.MIN_VALUE, -1, 0, 10, Integer.MAX_VALUE}) {
            Due.is("w " + w, x.worn(w, 0, 1, 0), ShaftPlay.BAD);
        }
        Due.is("the last place", x.worn(1, 0, 1, 2), 0);
        Due.is("above it", x.worn(1, 0, 1, 3), ShaftPlay.INDEX);
        Due.is("far above it", x.worn(1, 0, 1, Integer.MAX_VALUE), ShaftPlay.INDEX);
        Due.is("far below", x.worn(1, 0, 1, Integer.MIN_VALUE), ShaftPlay.INDEX);
        Due.is("another lane", x.worn(1, 0, 2, 3), ShaftPlay.CAST);
        Due.is("no row", x.worn(1, 1, 2, 3), ShaftPlay.NULL);
        Due.is("no sheet", x.worn(1, 4, 1, 0), ShaftPlay.BAD);
        Due.is("no lane", x.worn(1, 0, 3, 0), ShaftPlay.BAD);
        Due.is("lane -1", x.worn(1, 1, -1, 0), ShaftPlay.BAD);
    }

    static void promise29_film() {
        for (int lane = 0; lane < 3; lane++) {
            ShaftPlay x = withOneFigure();
            Due.cam(x, "123434343400");
            x.set(0, 0, 3);
            x.set(0, 1, 1);
            x.sheet(3, lane, 14);
            x.item(3, lane, 0, 77);
            x.item(3, lane, 13, 78);
            Due.is("film", x.film(0, 3, lane, 1), 12);
            x.set(0, 0, 0);
            x.set(0, 1, 0);
            rowIs("film", x, 3, lane, 77, 3, 5, 7, 9, 6, 9, 6, 9, 6, 9, 0, 0, 78);
        }
    }

    static void promise29_filmRefused() {
        ShaftPlay x = withOneFigure();
        x.sheet(0, 1, 13);
        Due.is("the last place", x.film(0, 0, 1, 1), 12);
        Due.is("above it", x.film(0, 0, 1, 2), ShaftPlay.INDEX);
        Due.is("below 0", x.film(0, 0, 1, -1), ShaftPlay.INDEX);
        Due.is("far", x.film(0, 0, 1, Integer.MAX_VALUE), ShaftPlay.INDEX);
        Due.is("far below", x.film(0, 0, 1, Integer.MIN_VALUE), ShaftPlay.INDEX);
        Due.is("another lane", x.film(0, 0, 0, 2), ShaftPlay.CAST);
        Due.is("no row", x.film(0, 1, 0, 2), ShaftPlay.NULL);
        Due.is("no figure", x.film(1, 1, 0, 2), ShaftPlay.BAD);
        Due.is("no sheet", x.film(0, 4, 0, 0), ShaftPlay.BAD);
        Due.is("no lane", x.film(0, 1, 3, 0), ShaftPlay.BAD);
        x.sheet(0, 1, 11);
        Due.is("too short a row", x.film(0, 0, 1, 0), ShaftPlay.INDEX);
    }

    static void promise30_sheets() {
        ShaftPlay x = withOneFigure();
        for (int s = 0; s < 4; s++) {
            Due.is("least", x.sheet(s, 0, 0), 0);
            Due.is("greatest", x.sheet(s, 2, 24), 24);
        }
        x.item(0, 2, 5, 9);
        Due.is("a new row", x.sheet(0, 2, 6), 6);
        rowIs("of zeros", x, 0, 2, 0, 0, 0, 0, 0, 0);
        Due.is("25", x.sheet(0, 1, 25), ShaftPlay.BAD);
        Due.is("far above", x.sheet(0, 1, Integer.MAX_VALUE), ShaftPlay.BAD);
        Due.is("below 0", x.sheet(0, 1, -1), ShaftPlay.SIZE);
        Due.is("far below", x.sheet(0, 1, Integer.MIN_VALUE), ShaftPlay.SIZE);
        for (int v : new int[] {Integer.MIN_VALUE, -1, 4, Integer.MAX_VALUE}) {
            Due.is("no sheet", x.sheet(v, 1, -1), ShaftPlay.BAD);
            Due.is("no lane", x.sheet(0, v, -1), ShaftPlay.BAD);
        }
        Due.is("lane 3", x.sheet(0, 3, 1), ShaftPlay.BAD);
        Due.is("the row stays", x.item(0, 2, 5, 1), 1);
        Due.is("of 6", x.drop(0), 6);
    }

    static void promise31_drops() {
        ShaftPlay x = new ShaftPlay();
        x.sheet(0, 0, 0);
        x.sheet(3, 1, 24);
        Due.is("an empty row", x.drop(0), 0);
        Due.is("nothing", x.drop(0), ShaftPlay.NULL);
        Due.is("nothing at first", x.drop(1), ShaftPlay.NULL);
        Due.is("a full row", x.drop(3), 24);
        Due.is("it is gone", x.item(3, 1, 0, 0), ShaftPlay.NULL);
        for (int v : new int[] {Integer.MIN_VALUE, -1, 4, Integer.MAX_VALUE}) {
            Due.is("drop " + v, x.drop(v), ShaftPlay.BAD);
        }
    }

    static void promise32_items() {
        ShaftPlay x = withOneFigure();
        for (int lane = 0; lane < 3; lane++) {
            x.sheet(lane, lane, 3);
            Due.is("item", x.item(lane, lane, 0, 4095), 1);
            Due.is("item", x.item(lane, lane, 2, 1), 1);
            Due.is("item again", x.item(lane, lane, 2, 5), 1);
            rowIs("row of lane " + lane, x, lane, lane, 4095, 0, 5);
        }
    }

    static void promise32_itemLanes() {
        ShaftPlay x = withOneFigure();
        long[] above = {1L << 16, 1L << 32, 0};
        for (int lane = 0; lane < 3; lane++) {
            x.sheet(0, lane, 2);
            x.item(0, lane, 0, 7 | above[lane] | above[lane] << 20);
            x.item(0, lane, 1, 7 | Long.MIN_VALUE);
            Due.is("lowest bits", holds(x, 0, lane, 0, 7) ? 1 : 0, 1);
            Due.is("a sign of 64 bits", holds(x, 0, lane, 1, 7) ? 1 : 0, lane == 2 ? 0 : 1);
        }
        x.sheet(0, 0, 1);
        x.item(0, 0, 0, 7 | 1L << 15);
        Due.is("a short's sign", holds(x, 0, 0, 0, 7) ? 1 : 0, 0);
        x.sheet(0, 1, 2);
        x.item(0, 1, 0, 7 | 1L << 31);
        x.item(0, 1, 1, 7 | 1L << 16);
        Due.is("an int's sign", holds(x, 0, 1, 0, 7) ? 1 : 0, 0);
        Due.is("an int's bit 16", holds(x, 0, 1, 1, 7) ? 1 : 0, 0);
    }

    static void promise32_itemsRefused() {
        ShaftPlay x = withOneFigure();
        x.sheet(0, 1, 24);
        x.sheet(1, 1, 0);
        Due.is("the last", x.item(0, 1, 23, 6), 1);
        Due.is("above it", x.item(0, 1, 24, 6), ShaftPlay.INDEX);
        Due.is("below 0", x.item(0, 1, -1, 6), ShaftPlay.INDEX);
        Due.is("far", x.item(0, 1, Integer.MAX_VALUE, 6), ShaftPlay.INDEX);
        Due.is("far below", x.item(0, 1, Integer.MIN_VALUE, 6), ShaftPlay.INDEX);
        Due.is("an empty row", x.item(1, 1, 0, 6), ShaftPlay.INDEX);
        Due.is("another lane", x.item(0, 0, 24, 6), ShaftPlay.CAST);
        Due.is("no row", x.item(2, 0, 24, 6), ShaftPlay.NULL);
        for (int v : new int[] {Integer.MIN_VALUE, -1, 4, Integer.MAX_VALUE}) {
            Due.is("no sheet", x.item(v, 1, 0, 6), ShaftPlay.BAD);
            Due.is("no lane", x.item(2, v, 0, 6), ShaftPlay.BAD);
        }
        Due.is("lane 3", x.item(0, 3, 0, 6), ShaftPlay.BAD);
        Due.is("the last is 6", holds(x, 0, 1, 23, 6) ? 1 : 0, 1);
        Due.is("the first is 0", holds(x, 0, 1, 0, 0) ? 1 : 0, 1);
    }

    static void promise33_copies() {
        ShaftPlay x = withOneFigure();
        tell(x, 1, 2, 3, 4);
        x.sheet(2, 1, 3);
        x.item(2, 1, 0, 9);
        Due.is("copy", x.copy(0, 1, 2, 1, 2), 2);
        rowIs("target", x, 2, 1, 9, 2, 3);
        rowIs("source", x, 0, 1, 1, 2, 3, 4);
        Due.is("none", x.copy(0, 4, 2, 3, 0), 0);
        x.item(0, 1, 1, 8);
        rowIs("rows of their own", x, 2, 1, 9, 2, 3);
        Due.is("all", x.copy(2, 0, 0, 1, 3), 3);
        rowIs("target", x, 0, 1, 1, 9, 2, 3);
        x.sheet(1, 2, 1);
        x.sheet(3, 2, 1);
        x.item(1, 2, 0, 7 | 1L << 50);
        x.copy(1, 0, 3, 0, 1);
        Due.is("a whole long", holds(x, 3, 2, 0, 7) ? 1 : 0, 0);
    }

    static void promise33_copiesOverlapping() {
        ShaftPlay x = withOneFigure();
        tell(x, 1, 2, 3, 4, 5);
        Due.is("up", x.copy(0, 0, 0, 1, 4), 4);
        rowIs("up", x, 0, 1, 1, 1, 2, 3, 4);
        tell(x, 1, 2, 3, 4, 5);
        Due.is("down", x.copy(0, 1, 0, 0, 4), 4);
        rowIs("down", x, 0, 1, 2, 3, 4, 5, 5);
        Due.is("onto itself", x.copy(0, 0, 0, 0, 5), 5);
        rowIs("onto itself", x, 0, 1, 2, 3, 4, 5, 5);
    }

    static void promise33_copiesRefused() {
        ShaftPlay x = withOneFigure();
        tell(x, 1, 2, 3, 4);
        x.sheet(1, 1, 3);
        x.sheet(2, 0, 24);
        Due.is("n below 0", x.copy(0, 0, 1, 0, -1), ShaftPlay.INDEX);
        Due.is("n far below 0", x.copy(0, 0, 1, 0, Integer.MIN_VALUE), ShaftPlay.INDEX);
        Due.is("i below 0", x.copy(0, -1, 1, 0, 1), ShaftPlay.INDEX);
        Due.is("j below 0", x.copy(0, 0, 1, -1, 1), ShaftPlay.INDEX);
        Due.is("i below 0, n 0", x.copy(0, -1, 1, 0, 0), ShaftPlay.INDEX);
        Due.is("i above, n 0", x.copy(0, 5, 1, 0, 0), ShaftPlay.INDEX);
        Due.is("j above, n 0", x.copy(0, 0, 1, 4, 0), ShaftPlay.INDEX);
        Due.is("the source is too short", x.copy(0, 2, 1, 0, 3), ShaftPlay.INDEX);
        Due.is("the target is too short", x.copy(0, 0, 1, 1, 3), ShaftPlay.INDEX);
        Due.is("n far", x.copy(0, 1, 1, 1, Integer.MAX_VALUE), ShaftPlay.INDEX);
        Due.is("i far", x.copy(0, Integer.MAX_VALUE, 1, 0, 1), ShaftPlay.INDEX);
        Due.is("j far", x.copy(0, 0, 1, Integer.MAX_VALUE, Integer.MAX_VALUE), ShaftPlay.INDEX);
        Due.is("unlike lanes", x.copy(0, 0, 2, 0, -1), ShaftPlay.CAST);
        Due.is("from nothing", x.copy(3, 0, 2, 0, -1), ShaftPlay.NULL);
        Due.is("to nothing", x.copy(2, 0, 3, 0, -1), ShaftPlay.NULL);
        for (int v : new int[] {Integer.MIN_VALUE, -1, 4, Integer.MAX_VALUE}) {
            Due.is("no source", x.copy(v, 0, 3, 0, 1), ShaftPlay.BAD);
            Due.is("no target", x.copy(3, 0, v, 0, 1), ShaftPlay.BAD);
        }
        rowIs("nothing came", x, 1, 1, 0, 0, 0);
        rowIs("nothing went", x, 0, 1, 1, 2, 3, 4);
    }

    static void terms_orderOfAnswers() {
        ShaftPlay x = withOneFigure();
        x.sheet(0, 1, 2);
        Due.is("worn: BAD first", x.worn(0, 1, 0, 9), ShaftPlay.BAD);
        Due.is("worn: NULL then", x.worn(1, 1, 0, 9), ShaftPlay.NULL);
        Due.is("worn: CAST then", x.worn(1, 0, 0, 9), ShaftPlay.CAST);
        Due.is("worn: INDEX then", x.worn(1, 0, 1, 9), ShaftPlay.INDEX);
        Due.is("film: BAD first", x.film(9, 1, 0, 9), ShaftPlay.BAD);
        Due.is("film: NULL then", x.film(0, 1, 0, 9), ShaftPlay.NULL);
        Due.is("film: CAST then", x.film(0, 0, 0, 9), ShaftPlay.CAST);
        Due.is("film: INDEX then", x.film(0, 0, 1, 9), ShaftPlay.INDEX);
    }
}
