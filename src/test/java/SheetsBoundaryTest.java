import java.util.function.Supplier;
import java.util.function.ToIntFunction;

/** Boundary cases of promises 28 to 33. */
public final class SheetsBoundaryTest {
    private static final int BAD = ShaftPlay.BAD, NULL = ShaftPlay.NULL, CAST = ShaftPlay.CAST,
        INDEX = ShaftPlay.INDEX, SIZE = ShaftPlay.SIZE;
    private static final int MIN = Integer.MIN_VALUE, MAX = Integer.MAX_VALUE;

    public static void main(String[] args) throws IllegalAccessException {
        Cases.run(SheetsBoundaryTest.class);
    }

    /** Of the full play: sheet 0 holds 24 shorts, 1 six ints, 2 five longs, 3 nothing. */
    private static void refused(String what, int answer, ToIntFunction<ShaftPlay> call) {
        Tried.refused(what, answer, Plays::full, call);
    }

    private static ShaftPlay withFigure(int kind, String hairs) {
        ShaftPlay x = Due.withCams(hairs);
        x.figure(kind, 0, 0, 0);
        return x;
    }

    private static ShaftPlay told(ShaftPlay x, int lane, long... items) {
        x.sheet(0, lane, items.length);
        for (int i = 0; i < items.length; i++) {
            x.item(0, lane, i, items[i]);
        }
        return x;
    }

    /** Whether an item of a sheet is this set: its one figure is cut to be up just there. */
    private static void itemIs(String what, ShaftPlay x, int sheet, int lane, int i, int set) {
        for (int angle = 0; angle < 12; angle++) {
            x.cut(0, angle, (set >> angle & 1) * 9);
        }
        Due.is(what + ": item " + i + " is " + set, x.worn(1, sheet, lane, i) >> 6, 1);
    }

    private static void rowIs(String what, ShaftPlay x, int sheet, int lane, int... sets) {
        for (int i = 0; i < sets.length; i++) {
            itemIs(what, x, sheet, lane, i, sets[i]);
        }
        Due.is(what + ": how many", x.drop(sheet), sets.length);
    }

    static void promise28_wSheetsAndLanes() {
        Tried.edges("w", Plays::full, 1, 9, (x, w) -> x.worn(w, 0, 0, 0));
        Tried.edges("sheet", Plays::full, 0, 3, (x, sheet) -> x.worn(1, sheet, 0, 0));
        Tried.edges("lane", Plays::full, 0, 2, (x, lane) -> x.worn(1, 0, lane, 0));
        Tried.edges("i of 24", INDEX, Plays::full, 0, 19, (x, i) -> x.worn(1, 0, 0, i));
        Tried.edges("i of 6", INDEX, Plays::full, 0, 1, (x, i) -> x.worn(1, 1, 1, i));
        Tried.edges("i of 5", INDEX, Plays::full, 0, 0, (x, i) -> x.worn(1, 2, 2, i));
        refused("a row short by one", INDEX, x -> {
            x.sheet(3, 1, 4);
            int found = x.worn(1, 3, 1, 0);
            x.drop(3);
            return found;
        });
    }

    static void promise28_nothingAndOtherLanes() {
        refused("nothing", NULL, x -> x.worn(1, 3, 0, 0));
        for (int sheet = 0; sheet < 3; sheet++) {
            for (int lane = 0; lane < 3; lane++) {
                int s = sheet;
                int l = lane;
                int answer = s == l ? Plays.full().worn(1, s, l, 0) : CAST;
                refused("sheet " + s + ", lane " + l, answer, x -> x.worn(1, s, l, 0));
                Due.is("it is taken in its lane alone", answer >= 0 ? 1 : 0, s == l ? 1 : 0);
            }
        }
    }

    static void promise28_badThenNullThenCastThenIndex() {
        refused("w, nothing", BAD, x -> x.worn(0, 3, 0, -1));
        refused("w, another lane", BAD, x -> x.worn(10, 0, 1, -1));
        refused("w, no items", BAD, x -> x.worn(0, 0, 0, -1));
        refused("sheet", BAD, x -> x.worn(1, 4, 0, -1));
        refused("lane, nothing", BAD, x -> x.worn(1, 3, 3, -1));
        refused("lane, no items", BAD, x -> x.worn(1, 0, -1, -1));
        refused("nothing, no items", NULL, x -> x.worn(1, 3, 0, -1));
        refused("another lane, no items", CAST, x -> x.worn(1, 0, 1, 25));
        refused("no items", INDEX, x -> x.worn(1, 0, 0, 25));
    }

    static void promise28_indexWithoutFiguresToo() {
        for (int n = 0; n <= 24; n += 24) {
            int size = n;
            Supplier<ShaftPlay> made = () -> {
                ShaftPlay x = Due.withCams("000000000000", "999999999999");
                x.sheet(0, 1, size);
                return x;
            };
            Tried.edges("i of " + size, INDEX, made, 0, size, (x, i) -> x.worn(1, 0, 1, i));
            Due.is("nothing is told, so it is so with all", made.get().worn(1, 0, 1, size), 64 + 3);
        }
        ShaftPlay x = new ShaftPlay();
        x.sheet(0, 1, 0);
        Due.is("no cams either", x.worn(9, 0, 1, 0), 64);
        Due.is("no sheet then", x.worn(9, 1, 1, 0), NULL);
        Due.is("another lane then", x.worn(9, 0, 0, 0), CAST);
    }

    static void promise28_itemsOfOneToFiveFigures() {
        for (int figures = 1; figures <= 5; figures++) {
            ShaftPlay x = withFigure(0, "900000000000");
            x.sheet(0, 0, figures);
            x.item(0, 0, 0, 1);
            for (int k = 1; k < figures; k++) {
                x.figure(0, 0, 12 - k, 0);
                x.item(0, 0, k, 1 << k);
            }
            Due.is("one item each of " + figures, x.worn(1, 0, 0, 0), 64 + 1);
            x.item(0, 0, figures - 1, 0);
            Due.is("the last one counts", x.worn(1, 0, 0, 0), 0);
            Due.is("one too few", x.worn(1, 0, 0, 1), INDEX);
        }
    }

    static void promise28_anyOtherBitIsNeverSo() {
        for (int bit = 12; bit < 64; bit++) {
            ShaftPlay x = withFigure(0, "500000000005");
            told(x, 2, 2049 | 1L << bit, 1L << bit, 2049);
            Due.is("bit " + bit + " beside what is", x.worn(1, 0, 2, 0), 0);
            Due.is("bit " + bit + " alone, behind wear", x.worn(1, 0, 2, 1), 0);
            Due.is("without it", x.worn(1, 0, 2, 2), 64);
        }
        for (int lane = 0; lane < 3; lane++) {
            ShaftPlay x = told(withFigure(0, "999999999999"), lane, -1, 4095, 4096);
            Due.is("all bits, lane " + lane, x.worn(1, 0, lane, 0), 0);
            Due.is("all angles, lane " + lane, x.worn(1, 0, lane, 1), 64 + 1);
            Due.is("bit 12, lane " + lane, x.worn(9, 0, lane, 2), 0);
        }
    }

    static void promise28_leastAndGreatestW() {
        ShaftPlay x = told(withFigure(0, "950000000000"), 1, 1, 0, 3);
        Due.is("1: 5 is 4", x.worn(1, 0, 1, 0), 1);
        Due.is("4: 9 is 5", x.worn(4, 0, 1, 0), 1);
        Due.is("5: 9 is 4", x.worn(5, 0, 1, 0), 0);
        Due.is("5: none is up", x.worn(5, 0, 1, 1), 1);
        Due.is("9: none is up", x.worn(9, 0, 1, 1), 1);
        Due.is("as all is, but by no wear", x.worn(1, 0, 1, 2), 64);
        x.line(1);
        Due.is("8: 9 is 1", x.worn(8, 0, 1, 0), 1);
        Due.is("9: 9 is 0", x.worn(9, 0, 1, 0), 0);
        Due.is("9: 0 is below the line", x.worn(9, 0, 1, 1), 1);
    }

    static void promise28_hairsAre0AtLeast() {
        // Of hairs below 0 one would be above the other, and a living figure up by the 1 more.
        ShaftPlay x = told(withFigure(3, "350000000000"), 1, 0);
        x.line(1);
        Due.is("living, 5 and 3 less 5", x.worn(5, 0, 1, 0), 1);
        Due.is("living, 5 and 3 less 6", x.worn(6, 0, 1, 0), 1);
        told(x, 1, 2);
        Due.is("living, 5 less 4", x.worn(4, 0, 1, 0), 1);
    }

    static void promise28_camsAre0To5AndBit6() {
        ShaftPlay x = withFigure(0, "900000000000");
        for (int cam = 1; cam < 6; cam++) {
            Due.cam(x, "900000000000");
        }
        told(x, 1, 1, 0);
        Due.is("all cams, and as all is", x.worn(4, 0, 1, 0), 127);
        Due.is("cam 0 alone is worn", x.worn(5, 0, 1, 1), 1);
        Due.is("all but cam 0", x.worn(5, 0, 1, 0), 126);
        x.set(0, 1, 5);
        Due.is("cam 5 alone is worn", x.worn(5, 0, 1, 1), 32);
        Due.is("never", told(x, 1, 2).worn(9, 0, 1, 0), 0);
    }

    static void promise28_wornOver11InBothWays() {
        ShaftPlay x = withFigure(2, "000000000007");
        told(x, 1, 2048 | 1, 2048 | 1024);
        Due.is("slow forwards", x.worn(1, 0, 1, 0), 1);
        x.way(1);
        Due.is("slow backwards", x.worn(1, 0, 1, 1), 1);
    }

    static void promise29_figuresSheetsLanesAndItems() {
        Tried.edges("figure of 5", Plays::full, 0, 4, (x, figure) -> x.film(figure, 0, 0, 0));
        Tried.edges("figure of 2", Plays::small, 0, 1, (x, figure) -> x.film(figure, 0, 0, 0));
        Tried.edges("sheet", Plays::full, 0, 3, (x, sheet) -> x.film(0, sheet, 0, 0));
        Tried.edges("lane", Plays::full, 0, 2, (x, lane) -> x.film(0, 0, lane, 0));
        Tried.edges("i of 24", INDEX, Plays::full, 0, 12, (x, i) -> x.film(0, 0, 0, i));
        Tried.refused("no figures", BAD, Plays::bare, x -> x.film(0, 0, 0, 0));
        refused("i 23: one item has room", INDEX, x -> x.film(0, 0, 0, 23));
        refused("6 items", INDEX, x -> x.film(0, 1, 1, 0));
        Tried.refused("no items", INDEX, Plays::withRows, x -> x.film(0, 2, 1, 0));
    }

    static void promise29_badThenNullThenCastThenIndex() {
        refused("figure, nothing", BAD, x -> x.film(5, 3, 0, -1));
        refused("figure, another lane", BAD, x -> x.film(-1, 0, 1, -1));
        refused("figure, no items", BAD, x -> x.film(5, 0, 0, 13));
        refused("lane, nothing", BAD, x -> x.film(0, 3, 3, -1));
        refused("lane, no items", BAD, x -> x.film(0, 0, 3, 13));
        refused("nothing, no items", NULL, x -> x.film(0, 3, 0, 13));
        refused("another lane, no items", CAST, x -> x.film(0, 0, 1, 13));
        refused("no items", INDEX, x -> x.film(0, 0, 0, 13));
    }

    static void promise29_twelveItemsAndNoneBeside() {
        for (int lane = 0; lane < 3; lane++) {
            for (int i = 0; i <= 12; i += 6) {
                ShaftPlay x = withFigure(0, "123456789098");
                x.sheet(0, lane, 24);
                for (int k = 0; k < 24; k++) {
                    x.item(0, lane, k, 100 + k);
                }
                Due.is("film from " + i + ", lane " + lane, x.film(0, 0, lane, i), 12);
                int[] heights = {1, 2, 3, 4, 5, 6, 7, 8, 9, 0, 9, 8};
                int[] row = new int[24];
                for (int k = 0; k < 24; k++) {
                    row[k] = k >= i && k < i + 12 ? heights[k - i] : 100 + k;
                }
                rowIs("film from " + i + ", lane " + lane, x, 0, lane, row);
            }
        }
    }

    static void promise29_leastAndGreatestHeights() {
        ShaftPlay x = withFigure(3, "900000000008");
        x.sheet(1, 0, 12);
        x.way(1);
        x.film(0, 1, 0, 0);
        x.set(0, 0, 0);
        rowIs("living backwards over 11", x, 1, 0, 19, 0, 0, 0, 0, 0, 0, 0, 0, 0, 0, 16);
    }

    static void promise30_sheetsLanesAndSizes() {
        Tried.edges("sheet", Plays::full, 0, 3, (x, sheet) -> x.sheet(sheet, 1, 2));
        Tried.edges("lane", Plays::full, 0, 2, (x, lane) -> x.sheet(1, lane, 2));
        refused("n 25", BAD, x -> x.sheet(0, 0, 25));
        refused("n far above", BAD, x -> x.sheet(3, 0, MAX));
        refused("n -1", SIZE, x -> x.sheet(0, 0, -1));
        refused("n -1 of what holds nothing", SIZE, x -> x.sheet(3, 0, -1));
        refused("n far below", SIZE, x -> x.sheet(1, 2, MIN));
    }

    static void promise30_badGoesBeforeSize() {
        refused("sheet 4", BAD, x -> x.sheet(4, 0, -1));
        refused("sheet -1", BAD, x -> x.sheet(-1, 0, -1));
        refused("lane 3", BAD, x -> x.sheet(0, 3, -1));
        refused("lane -1", BAD, x -> x.sheet(0, -1, -1));
    }

    static void promise30_nIs0To24() {
        for (int sheet = 0; sheet < 4; sheet++) {
            for (int lane = 0; lane < 3; lane++) {
                ShaftPlay x = new ShaftPlay();
                Due.is("0", x.sheet(sheet, lane, 0), 0);
                Due.is("no item 0", x.item(sheet, lane, 0, 1), INDEX);
                Due.is("24", x.sheet(sheet, lane, 24), 24);
                Due.is("item 23", x.item(sheet, lane, 23, 1), 1);
                Due.is("no item 24", x.item(sheet, lane, 24, 1), INDEX);
                Due.is("how many", x.drop(sheet), 24);
            }
        }
    }

    static void promise30_aNewRowIsAll0() {
        ShaftPlay x = withFigure(0, "000000000000");
        told(x, 1, 1, 2, 3, 4);
        x.sheet(0, 1, 5);
        rowIs("a longer row of the same lane", x, 0, 1, 0, 0, 0, 0, 0);
        told(x, 1, 1, 2, 3, 4);
        x.sheet(0, 2, 3);
        Due.is("it is of the new lane alone", x.item(0, 1, 0, 1), CAST);
        rowIs("a shorter row of another lane", x, 0, 2, 0, 0, 0);
        x.sheet(0, 0, 4);
        rowIs("behind drop", x, 0, 0, 0, 0, 0, 0);
    }

    static void promise31_sheets() {
        Tried.edges("sheet", Plays::full, 0, 3, (x, sheet) -> x.drop(sheet));
        Tried.edges("sheet of a bare shaft", Plays::bare, 0, 3, (x, sheet) -> x.drop(sheet));
        refused("nothing", NULL, x -> x.drop(3));
    }

    static void promise31_howManyItems() {
        ShaftPlay x = Plays.full();
        int[] sizes = {24, 6, 5, NULL};
        for (int sheet = 0; sheet < 4; sheet++) {
            Due.is("sheet " + sheet, x.drop(sheet), sizes[sheet]);
            Due.is("again", x.drop(sheet), NULL);
        }
        x.sheet(3, 2, 0);
        Due.is("an empty row is no nothing", x.drop(3), 0);
        Due.is("nothing then", x.drop(3), NULL);
    }

    static void promise32_sheetsLanesAndItems() {
        Tried.edges("sheet", Plays::full, 0, 3, (x, sheet) -> x.item(sheet, 0, 0, 1));
        Tried.edges("lane", Plays::full, 0, 2, (x, lane) -> x.item(0, lane, 0, 1));
        Tried.edges("i of 24", INDEX, Plays::full, 0, 23, (x, i) -> x.item(0, 0, i, 1));
        Tried.edges("i of 6", INDEX, Plays::full, 0, 5, (x, i) -> x.item(1, 1, i, 1));
        Tried.edges("i of 5", INDEX, Plays::full, 0, 4, (x, i) -> x.item(2, 2, i, 1));
        Tried.refused("an empty row", INDEX, Plays::withRows, x -> x.item(2, 1, 0, 1));
    }

    static void promise32_badThenNullThenCastThenIndex() {
        refused("sheet", BAD, x -> x.item(4, 0, -1, 1));
        refused("lane, nothing", BAD, x -> x.item(3, 3, -1, 1));
        refused("lane, no item", BAD, x -> x.item(0, -1, 24, 1));
        refused("nothing, no item", NULL, x -> x.item(3, 0, -1, 1));
        for (int lane = 1; lane < 3; lane++) {
            int l = lane;
            refused("another lane, no item", CAST, x -> x.item(0, l, 24, 1));
            refused("another lane", CAST, x -> x.item(0, l, 0, 1));
        }
        refused("no item", INDEX, x -> x.item(0, 0, 24, 1));
    }

    static void promise32_itsLowestBits() {
        int[] bits = {16, 32, 64};
        for (int lane = 0; lane < 3; lane++) {
            ShaftPlay x = withFigure(0, "000000000000");
            long all = lane == 2 ? -1L : (1L << bits[lane]) - 1;
            told(x, lane, 2730 | ~all, 4095 | ~all, ~all, all & ~4095L);
            itemIs("lane " + lane + ", bits above it", x, 0, lane, 0, 2730);
            itemIs("lane " + lane + ", bits above it", x, 0, lane, 1, 4095);
            itemIs("lane " + lane + ", bits above it", x, 0, lane, 2, 0);
            Due.is("lane " + lane + ", bits 12 and up of it", x.worn(9, 0, lane, 3), 0);
            for (int bit = 12; bit < bits[lane]; bit++) {
                told(x, lane, 1L << bit);
                Due.is("lane " + lane + ", its bit " + bit, x.worn(9, 0, lane, 0), 0);
            }
            for (int bit = bits[lane]; bit < 64; bit++) {
                told(x, lane, 1L << bit);
                Due.is("lane " + lane + ", bit " + bit + " is none of it", x.worn(9, 0, lane, 0), 64 + 1);
            }
        }
    }

    static void promise32_leastAndGreatestOfEachLane() {
        long[] least = {Short.MIN_VALUE, Integer.MIN_VALUE, Long.MIN_VALUE};
        for (int lane = 0; lane < 3; lane++) {
            ShaftPlay x = withFigure(0, "999999999999");
            for (long v : new long[] {least[lane], ~least[lane], -1}) {
                Due.is("it is taken", told(x, lane, v).item(0, lane, 0, v), 1);
                Due.is("lane " + lane + ", " + v + " has other bits", x.worn(9, 0, lane, 0), 0);
            }
        }
    }

    static void promise32_noItemBesideIt() {
        for (int i = 0; i < 24; i += 23) {
            ShaftPlay x = withFigure(0, "000000000000");
            x.sheet(0, 1, 24);
            x.item(0, 1, i, 77);
            int[] row = new int[24];
            row[i] = 77;
            rowIs("item " + i, x, 0, 1, row);
        }
    }

    static void promise33_sheets() {
        Tried.edges("from", Plays::full, 0, 3, (x, from) -> x.copy(from, 0, 0, 0, 1));
        Tried.edges("to", Plays::full, 0, 3, (x, to) -> x.copy(0, 0, to, 0, 1));
    }

    static void promise33_badThenNullThenCastThenIndex() {
        refused("from 4, to nothing", BAD, x -> x.copy(4, -1, 3, -1, -1));
        refused("from -1, to what is there", BAD, x -> x.copy(-1, 0, 0, 0, 1));
        refused("from nothing, to 4", BAD, x -> x.copy(3, -1, 4, -1, -1));
        refused("to -1", BAD, x -> x.copy(0, 0, -1, 0, 1));
        refused("from nothing", NULL, x -> x.copy(3, -1, 0, 0, 1));
        refused("to nothing", NULL, x -> x.copy(0, 0, 3, 0, -1));
        refused("nothing to nothing", NULL, x -> x.copy(3, 0, 3, 0, 0));
        for (int from = 0; from < 3; from++) {
            for (int to = 0; to < 3; to++) {
                int f = from;
                int t = to;
                int answer = f == t ? INDEX : CAST;
                refused("sheet " + f + " to " + t + ", n -1", answer, x -> x.copy(f, 0, t, 0, -1));
                refused("sheet " + f + " to " + t + ", i -1", answer, x -> x.copy(f, -1, t, 0, 1));
                refused("sheet " + f + " to " + t + ", j 25", answer, x -> x.copy(f, 0, t, 25, 0));
            }
        }
        refused("of unlike lanes, none", CAST, x -> x.copy(0, 0, 1, 0, 0));
    }

    /** Sheet 0 holds 24 items, sheet 1 six of the same lane, sheet 2 none. */
    private static void itemsOf(String number, int least, int greatest, Tried.ByNumber call) {
        Tried.edges(number, INDEX, Plays::withRows, least, greatest, call);
    }

    static void promise33_itemsToCopy() {
        itemsOf("i, one item", 0, 23, (x, i) -> x.copy(0, i, 1, 0, 1));
        itemsOf("j, one item", 0, 5, (x, j) -> x.copy(0, 0, 1, j, 1));
        itemsOf("i, six items", 0, 18, (x, i) -> x.copy(0, i, 1, 0, 6));
        itemsOf("j, six items", 0, 18, (x, j) -> x.copy(1, 0, 0, j, 6));
        itemsOf("n by the target", 0, 6, (x, n) -> x.copy(0, 0, 1, 0, n));
        itemsOf("n by the source", 0, 6, (x, n) -> x.copy(1, 0, 0, 0, n));
        itemsOf("n by the target from j on", 0, 2, (x, n) -> x.copy(0, 0, 1, 4, n));
        itemsOf("n by the source from i on", 0, 3, (x, n) -> x.copy(0, 21, 1, 0, n));
        itemsOf("n on itself", 0, 24, (x, n) -> x.copy(0, 0, 0, 0, n));
    }

    static void promise33_noItemsToCopy() {
        itemsOf("i of 24, n 0", 0, 24, (x, i) -> x.copy(0, i, 1, 0, 0));
        itemsOf("j of 6, n 0", 0, 6, (x, j) -> x.copy(0, 0, 1, j, 0));
        itemsOf("i of none, n 0", 0, 0, (x, i) -> x.copy(2, i, 0, 0, 0));
        itemsOf("j of none, n 0", 0, 0, (x, j) -> x.copy(0, 0, 2, j, 0));
        Tried.refused("n 0 changes nothing", 0, Plays::withRows, x -> x.copy(0, 24, 1, 6, 0));
        Tried.refused("n 1 from none", INDEX, Plays::withRows, x -> x.copy(2, 0, 0, 0, 1));
        Tried.refused("n 1 to none", INDEX, Plays::withRows, x -> x.copy(0, 0, 2, 0, 1));
    }

    static void promise33_numbersThatAreTooFarTogether() {
        Tried.refused("i and n", INDEX, Plays::withRows, x -> x.copy(0, MAX, 1, 0, MAX));
        Tried.refused("j and n", INDEX, Plays::withRows, x -> x.copy(0, 0, 1, MAX, MAX));
        Tried.refused("1 and n", INDEX, Plays::withRows, x -> x.copy(0, 1, 1, 1, MAX));
        Tried.refused("i below, n far", INDEX, Plays::withRows, x -> x.copy(0, MIN, 1, 0, MAX));
        Tried.refused("n far below", INDEX, Plays::withRows, x -> x.copy(0, 24, 1, 6, MIN));
    }

    private static void isCopied(String what, int i, int j, int n, int... want) {
        for (int lane = 0; lane < 3; lane++) {
            ShaftPlay x = told(withFigure(0, "000000000000"), lane, 1, 2, 3, 4, 5, 6);
            Due.is(what, x.copy(0, i, 0, j, n), n);
            rowIs(what + ", lane " + lane, x, 0, lane, want);
        }
    }

    static void promise33_asIfAllWereTakenAhead() {
        isCopied("up by 1", 0, 1, 5, 1, 1, 2, 3, 4, 5);
        isCopied("down by 1", 1, 0, 5, 2, 3, 4, 5, 6, 6);
        isCopied("up by 2", 0, 2, 4, 1, 2, 1, 2, 3, 4);
        isCopied("down by 2", 2, 0, 4, 3, 4, 5, 6, 5, 6);
        isCopied("all onto themselves", 0, 0, 6, 1, 2, 3, 4, 5, 6);
        isCopied("none", 6, 0, 0, 1, 2, 3, 4, 5, 6);
        isCopied("the first to the last", 0, 5, 1, 1, 2, 3, 4, 5, 1);
        isCopied("the last to the first", 5, 0, 1, 6, 2, 3, 4, 5, 6);
    }

    static void promise33_aWholeRowToAnotherSheet() {
        ShaftPlay x = withFigure(0, "000000000000");
        int[] row = new int[24];
        for (int lane = 0; lane < 3; lane++) {
            x.sheet(1, lane, 24);
            x.sheet(2, lane, 24);
            for (int i = 0; i < 24; i++) {
                row[i] = 100 * lane + i + 1;
                x.item(1, lane, i, row[i]);
            }
            Due.is("24 items, lane " + lane, x.copy(1, 0, 2, 0, 24), 24);
            x = rowThen(x, lane, row);
        }
    }

    /** Both rows, each looked at in turn; a new object, as an object has 512 calls. */
    private static ShaftPlay rowThen(ShaftPlay x, int lane, int[] row) {
        x.item(1, lane, 0, 9);
        itemIs("the source's first became another", x, 1, lane, 0, 9);
        rowIs("the target, lane " + lane, x, 2, lane, row);
        return withFigure(0, "000000000000");
    }

    static void promise33_aLongKeepsAllItsBits() {
        ShaftPlay x = told(withFigure(0, "999999999999"), 2, 4095 | 1L << 63, 4095 | 1L << 32, 4095);
        x.sheet(3, 2, 3);
        x.copy(0, 0, 3, 0, 3);
        Due.is("bit 63", x.worn(1, 3, 2, 0), 0);
        Due.is("bit 32", x.worn(1, 3, 2, 1), 0);
        Due.is("neither", x.worn(1, 3, 2, 2), 64 + 1);
    }
}
