import static java.lang.Integer.MAX_VALUE;
import static java.lang.Integer.MIN_VALUE;

/** Promises 16 to 25: what is asked. */
public final class AskedTest {
    private AskedTest() {
    }

    public static void main(String[] args) {
        ofCell();
        ofGrain();
        metal();
        metalOfSizes();
        metalOfJunctions();
        metalWithoutCells();
        change();
        texture();
        wall();
        line();
        sided();
        picture();
        etched();
        Check.end("AskedTest");
    }

    private static void ofCell() {
        Grainwright x = Check.of("12*", "345");
        x.misfit(4, 5, 6);
        x.work(4, 3);
        x.curve(9, 1);
        x.cool(9, 9, 1);
        Check.due("16 mark", x.ofCell(4, 0), 4);
        Check.due("16 mark of a particle", x.ofCell(2, 0), 0);
        Check.due("16 work", x.ofCell(4, 1), 3);
        Check.due("16 hard", x.ofCell(4, 2), 1);
        Check.due("16 not hard", x.ofCell(3, 2), 0);
        Check.due("16 others beside", x.ofCell(4, 3), 3);
        Check.due("16 others beside without particles", x.ofCell(1, 3), 2);
        Check.due("16 none beside a particle", x.ofCell(2, 3), 2);
        Check.due("16 none beside a particle among particles", Check.of("**", "12").ofCell(0, 3), 1);
        Check.due("16 the same do not count", Check.of("11", "12").ofCell(1, 3), 1);
        Check.due("16 grain", x.ofCell(1, 4), 1);
        Check.due("16 grain behind a particle", x.ofCell(5, 4), 4);
        Check.due("16 grain of a particle", x.ofCell(2, 4), -1);
        Check.due("16 misfit", x.ofCell(4, 5), 1 + 6 + 1);
        Check.due("16 misfit beside a particle", x.ofCell(5, 5), 6);
        Check.due("16 misfit of a particle", x.ofCell(2, 5), 0);
        for (int wrong : new int[] {-1, 6, MIN_VALUE, MAX_VALUE}) {
            Check.outside("16 cell " + wrong, () -> x.ofCell(wrong, 6));
            Check.illegal("16 what " + wrong, () -> x.ofCell(5, wrong));
        }
        Check.outside("16 no lattice", () -> new Grainwright().ofCell(0, 0));
    }

    private static void ofGrain() {
        Grainwright x = Check.of("112", "1*2", "332");
        x.work(0, 3);
        x.work(3, 4);
        x.work(6, 5);
        x.curve(9, 1);
        x.cool(9, 9, 2);
        int[][] want = {{1, 3, 4, 2, 0, 7, 1}, {2, 3, 3, 2, 2, 0, 0}, {3, 2, 3, 2, 6, 5, 1}};
        for (int grain = 0; grain < 3; grain++) {
            for (int what = 0; what <= 6; what++) {
                Check.due("17 grain " + grain + " what " + what, x.ofGrain(grain, what), want[grain][what]);
            }
        }
        Grainwright y = Check.of("12", "21");
        Check.due("17 corners do not hang together", y.metal(1), 4);
        Check.due("17 round", y.ofGrain(3, 2), 2);
        Grainwright z = Check.of("121", "222");
        Check.due("17 one that is met twice is one", Check.of("112", "111").ofGrain(1, 3), 1);
        Check.due("17 two of one mark are two", z.ofGrain(1, 3), 2);
        Check.due("17 by etch nothing changes", z.etch(9) + z.metal(1), 1 + 3);
        for (int wrong : new int[] {-1, 3, MIN_VALUE, MAX_VALUE}) {
            Check.outside("17 grain " + wrong, () -> x.ofGrain(wrong, 7));
        }
        for (int wrong : new int[] {-1, 7, MIN_VALUE, MAX_VALUE}) {
            Check.illegal("17 what " + wrong, () -> x.ofGrain(2, wrong));
        }
        Check.outside("17 no lattice", () -> new Grainwright().ofGrain(0, 0));
        Check.outside("17 particles alone", () -> Check.of("**", "**").ofGrain(0, 0));
    }

    private static void dueOfMetal(String name, Grainwright x, int... want) {
        for (int what = 0; what <= 15; what++) {
            Check.due("18 " + name + " what " + what, x.metal(what), want[what]);
        }
    }

    private static void metal() {
        Grainwright x = Check.of("123", "423", "*55");
        x.misfit(2, 3, 4);
        x.misfit(1, 4, 2);
        x.work(0, 3);
        x.work(8, 4);
        x.curve(9, 1);
        x.cool(9, 9, 2);
        // ENERGY: rows 1 + 4, 1 + 4, 0; columns 2 + 0, 0 + 1, 0 + 1; and 14.
        // JUNCTIONS: {1, 2, 4}, {2, 3}, {4, 2, 5}, {2, 3, 5}.
        dueOfMetal("etch 1", x, 14 + 14, 5, 5, 800 / 5, 1800 / (9 + 6), 3, 0, 3,
                20 + 100 + 4 + 6 + 3, 9, 1, 2, 7, 9, 9, 2);
        x.etch(2);
        // SEEN: 2 and 3 twice, 1 and 4, the PARTICLE twice; GRAINS by these: 1, 2, 4, 5, and 3 with 5.
        dueOfMetal("etch 2", x, 28, 5, 1, 800, 1800 / (5 + 6), 0, 160 - 800, 3,
                20 + 55 + 4 + 6 + 3, 5, 1, 2, 7, 9, 9, 2);
        for (int wrong : new int[] {-1, 16, MIN_VALUE, MAX_VALUE}) {
            Check.illegal("18 what " + wrong, () -> x.metal(wrong));
        }
    }

    private static void metalOfSizes() {
        int[] grains = {1, 2, 4, 8, 9, 16};
        String[][] rows = {{"11", "11"}, {"11", "22"}, {"12", "34"}, {"1234", "5678"}, {"123", "456", "789"},
            {"1212", "2121", "1212", "2121"}};
        int[] chart = {0, 1, 2, 3, 4, 4};
        for (int k = 0; k < grains.length; k++) {
            Grainwright x = Check.of(rows[k]);
            Check.due("18 grains of " + rows[k][0], x.metal(1), grains[k]);
            Check.due("18 chart of " + grains[k], x.metal(5), chart[k]);
            Check.due("18 area of " + grains[k], x.metal(3), 100 * x.metal(13) / grains[k]);
        }
        Check.due("18 lines of a wide one", Check.of("12345678", "12345678").metal(4), 3200 / (14 + 10));
        Check.due("18 area leaves particles out", Check.of("1*2", "1*2").metal(3), 200);
        Check.due("18 two particles are not seen as two", Check.of("1**", "1**").metal(9), 2);
    }

    private static void metalOfJunctions() {
        String[][] three = {{"*1", "23"}, {"1*", "23"}, {"12", "*3"}, {"12", "3*"}, {"11", "23"}, {"12", "34"}};
        for (String[] rows : three) {
            Check.due("18 junction of " + rows[0] + "/" + rows[1], Check.of(rows).metal(7), 1);
        }
        String[][] two = {{"12", "21"}, {"12", "1*"}, {"**", "12"}, {"11", "22"}, {"12", "22"}};
        for (String[] rows : two) {
            Check.due("18 no junction of " + rows[0] + "/" + rows[1], Check.of(rows).metal(7), 0);
        }
        Check.due("18 junctions in a row", Check.of("1213", "3424").metal(7), 3);
        Check.due("18 junctions in a column", Check.of("13", "24", "15", "15").metal(7), 2);
        Grainwright x = Check.of("12", "34");
        x.etch(9);
        Check.due("18 junctions are not by etch", x.metal(7), 1);
    }

    private static void metalWithoutCells() {
        Grainwright none = new Grainwright();
        dueOfMetal("no lattice", none, 0, 0, 0, 0, 0, 0, 0, 0, 0, 0, 0, 0, 0, 0, 0, 0);
        dueOfMetal("particles alone", Check.of("**", "**"),
                0, 0, 0, 0, 200, 0, 0, 0, 36, 0, 4, 0, 0, 4, 4, 0);
    }

    private static void change() {
        Grainwright x = Check.of("123", "12*");
        x.misfit(2, 3, 5);
        x.misfit(1, 3, 4);
        // CELL 1 has 3 on the right, 2 below, 1 on the left.
        Check.due("19 to 3", x.change(1, 0), (5 + 4) - (5 + 1));
        Check.due("19 to the same", x.change(1, 1), 0);
        Check.due("19 to 1", x.change(1, 2), (4 + 1) - (5 + 1));
        x.work(1, 6);
        Check.due("19 work is lost", x.change(1, 0), 3 - 12);
        Check.due("19 work is lost to the same", x.change(1, 1), -12);
        x.work(2, 1);
        Check.due("19 work is kept", x.change(1, 0), 3);
        x.curve(9, 1);
        x.cool(9, 9, 1);
        Check.due("19 hard", x.change(1, 0), 3);
        Check.due("19 to a particle", x.change(2, 0), 0);
        Check.due("19 of a particle", x.change(5, 0), 0);
        Check.due("19 above", x.change(4, 0), 0);
        int[] neighbours = {2, 3, 2, 2, 3, 2};
        for (int cell = 0; cell < 6; cell++) {
            int at = cell;
            x.change(at, neighbours[at] - 1);
            Check.outside("19 no such neighbour of " + at, () -> x.change(at, neighbours[at]));
        }
        for (int wrong : new int[] {-1, MIN_VALUE, MAX_VALUE}) {
            Check.outside("19 cell " + wrong, () -> x.change(wrong, 0));
            Check.outside("19 neighbour " + wrong, () -> x.change(1, wrong));
        }
        Check.outside("19 cell behind all", () -> x.change(6, 0));
        Check.outside("19 no lattice", () -> new Grainwright().change(0, 0));
        neighboursInTheirOrder();
    }

    private static void neighboursInTheirOrder() {
        Grainwright x = Check.of("121", "513", "141");
        for (int mark = 2; mark <= 5; mark++) {
            x.misfit(1, mark, mark);
        }
        // Behind it CELL 4 is as its neighbour, and 1 from each of the other three.
        int[] around = {2, 3, 4, 5};
        for (int which = 0; which < 4; which++) {
            Check.due("19 neighbour " + which, x.change(4, which), 3 - 14);
        }
        for (int which = 0; which < 4; which++) {
            x.misfit(around[which], around[(which + 1) % 4], 2 + which);
        }
        int[] want = {2 + 5 + 1, 2 + 3 + 1, 3 + 4 + 1, 4 + 5 + 1};
        for (int which = 0; which < 4; which++) {
            Check.due("19 neighbour in order " + which, x.change(4, which), want[which] - 14);
        }
    }

    private static void texture() {
        Grainwright x = Check.of("112", "1*3", "444");
        int[] want = {333, 111, 111, 333, 0, 0, 0, 0, 0};
        for (int mark = 1; mark <= 9; mark++) {
            Check.due("20 texture of " + mark, x.texture(mark), want[mark - 1]);
        }
        Check.due("20 all", Check.of("99", "99").texture(9), 1000);
        Check.due("20 no lattice", new Grainwright().texture(1), 0);
        for (int wrong : new int[] {0, 10, -1, MIN_VALUE, MAX_VALUE}) {
            Check.illegal("20 mark " + wrong, () -> x.texture(wrong));
        }
    }

    private static void wall() {
        Grainwright x = Check.of("121", "213", "3*9");
        Check.due("21 1 and 2", x.wall(1, 2), 5);
        Check.due("21 2 and 1", x.wall(2, 1), 5);
        Check.due("21 3 and 9", x.wall(9, 3), 1);
        Check.due("21 1 and 3", x.wall(1, 3), 2);
        Check.due("21 none", x.wall(4, 5), 0);
        Check.due("21 no lattice", new Grainwright().wall(1, 2), 0);
        for (int wrong : new int[] {0, 10, -1, MIN_VALUE, MAX_VALUE}) {
            Check.illegal("21 one " + wrong, () -> x.wall(wrong, 1));
            Check.illegal("21 other " + wrong, () -> x.wall(1, wrong));
        }
        Check.illegal("21 the same", () -> x.wall(3, 3));
    }

    private static void line() {
        Grainwright x = Check.of("1234", "11*4", "1133");
        int[] cuts = {3, 2, 1, 0, 1, 2, 1};
        for (int line = 0; line < 7; line++) {
            Check.due("22 cuts of " + line, x.line(line, true), cuts[line]);
            Check.due("22 cells of " + line, x.line(line, false), line < 3 ? 4 : 3);
        }
        x.misfit(2, 3, 2);
        x.etch(2);
        Check.due("22 cuts by etch", x.line(0, true), 1);
        Check.due("22 cuts at a particle", x.line(5, true), 2);
        for (int wrong : new int[] {-1, 7, MIN_VALUE, MAX_VALUE}) {
            Check.outside("22 line " + wrong, () -> x.line(wrong, true));
            Check.outside("22 line " + wrong, () -> x.line(wrong, false));
        }
        Check.outside("22 no lattice", () -> new Grainwright().line(0, false));
    }

    private static void sided() {
        Grainwright x = Check.of("123", "222", "4*5");
        int[] want = {0, 4, 0, 0, 1, 0, 0};
        for (int many = 0; many <= 6; many++) {
            Check.due("23 sided " + many, x.sided(many), want[many]);
        }
        Check.due("23 alone", Check.of("1*", "*1").sided(0), 2);
        Check.due("23 far too many", x.sided(MAX_VALUE), 0);
        Check.due("23 no lattice", new Grainwright().sided(0), 0);
        Check.illegal("23 below 0", () -> x.sided(-1));
        Check.illegal("23 far below 0", () -> x.sided(MIN_VALUE));
    }

    private static void picture() {
        Check.due("24 no lattice", new Grainwright().picture(), "-");
        Check.due("24 wide", Check.of("123456", "78*9*1").picture(), "123456/78*9*1");
        Grainwright x = Check.of("12", "3*");
        x.etch(9);
        x.curve(9, 1);
        x.cool(9, 9, 1);
        Check.due("24 neither etch nor hard", x.picture(), "12/3*");
    }

    private static void etched() {
        Check.due("25 no lattice", new Grainwright().etched(), "-");
        Grainwright x = Check.of("975", "*86");
        Check.due("25 all seen", x.etched(), "975/*86");
        x.misfit(7, 9, 4);
        x.misfit(5, 7, 3);
        x.misfit(6, 8, 3);
        x.etch(3);
        // Not SEEN: 7 and 8, 5 and 6.
        Check.due("25 the smallest", x.etched(), "975/*75");
        x.etch(4);
        Check.due("25 the smallest of more", x.etched(), "955/*55");
        x.work(2, 1);
        x.curve(9, 1);
        x.cool(9, 9, 1);
        Check.due("25 a hard one counts", x.etched(), "95#/*55");
    }
}
