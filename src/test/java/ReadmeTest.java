/** The rows of README.md answer what stands there. */
public final class ReadmeTest {
    public static void main(String[] args) {
        ShaftPlay play = new ShaftPlay();
        Due.is("99999999", play.type(0x3939393939393939L, 8), 8);
        Due.is("0000", play.type(0x30303030L, 4), 12);
        int cam = play.cam();
        Due.is("cam", cam, 0);
        int figure = play.figure(0, cam, 0, 0);
        Due.is("figure", figure, 0);
        Due.is("ups", play.ups(figure), 255);
        Due.is("turn", play.turn(9), 0);
        Due.is("up now", play.count(5), 0);

        Due.is("uuuuuuuu", play.type(0x7575757575757575L, 8), 8);
        Due.is("u..d", play.type(0x752E2E64L, 4), 12);
        Due.is("wish", play.wish(figure), 10);
        Due.is("missed", play.missed(figure), 8);
        Due.is("pegs", play.pegs(figure, 0), 1);
        Due.is("fewest", play.fewest(), 1);

        Due.is("sheet", play.sheet(0, 2, 24), 24);
        Due.is("item", play.item(0, 2, 0, 255), 1);
        Due.is("worn", play.worn(4, 0, 2, 0), 65);
        Due.is("film", play.film(figure, 0, 2, 12), 12);
        Due.end("ReadmeTest");
    }
}
