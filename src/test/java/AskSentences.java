/** The sentences of promises 16 to 25: what is asked. */
final class AskSentences {
    private AskSentences() {
    }

    private static Grainwright asked() {
        Grainwright x = Pieces.of("12*", "345");
        x.misfit(4, 5, 6);
        x.work(4, 3);
        Pieces.harden(x, 4);
        return x;
    }

    @Sentence(in = "Promise 16", says = "0 its MARK (0: a PARTICLE), 1 WORK, 2 1 if it is HARD, otherwise 0")
    static void ofCellMarkWorkAndHardness() {
        Grainwright x = asked();
        int[] marks = {1, 2, 0, 3, 4, 5};
        for (int cell = 0; cell < 6; cell++) {
            Check.due("ofCell(" + cell + ", 0)", x.ofCell(cell, 0), marks[cell]);
            Check.due("ofCell(" + cell + ", 1)", x.ofCell(cell, 1), cell == 4 ? 3 : 0);
            Check.due("ofCell(" + cell + ", 2)", x.ofCell(cell, 2), cell == 4 ? 1 : 0);
        }
    }

    @Sentence(in = "Promise 16", says = "3 how many of its NEIGHBOURS have other MARKS (PARTICLES do not count; "
            + "of a PARTICLE: how many are none)")
    static void ofCellOthers() {
        Grainwright x = asked();
        int[] want = {2, 2, 2, 2, 3, 1};
        for (int cell = 0; cell < 6; cell++) {
            Check.due("ofCell(" + cell + ", 3)", x.ofCell(cell, 3), want[cell]);
        }
        Check.due("of a PARTICLE among PARTICLES", Pieces.of("**", "12").ofCell(0, 3), 1);
        Check.due("of PARTICLES alone", Pieces.of("**", "**").ofCell(0, 3), 0);
        Check.due("the same MARK does not count", Pieces.of("11", "12").ofCell(1, 3), 1);
        Check.due("the most", Pieces.of("121", "212", "121").ofCell(4, 3), 4);
        Check.due("the most of a PARTICLE, of one MARK", Pieces.of("111", "1*1", "111").ofCell(4, 3), 4);
        Grainwright etched = Pieces.of("12", "21");
        etched.etch(9);
        Check.due("by MARKS, not by what is SEEN", etched.ofCell(0, 3), 2);
    }

    @Sentence(in = "Promise 16", says = "4 its GRAIN (NONE of a PARTICLE)")
    static void ofCellGrain() {
        Grainwright x = asked();
        int[] want = {0, 1, -1, 2, 3, 4};
        for (int cell = 0; cell < 6; cell++) {
            Check.due("ofCell(" + cell + ", 4)", x.ofCell(cell, 4), want[cell]);
        }
        x.etch(9);
        Check.due("by ETCH 9", x.ofCell(5, 4), 4);
    }

    @Sentence(in = "Promise 16", says = "5 MISFIT with all its NEIGHBOURS together")
    static void ofCellMisfit() {
        Grainwright x = asked();
        int[] want = {2, 2, 0, 2, 8, 6};
        for (int cell = 0; cell < 6; cell++) {
            Check.due("ofCell(" + cell + ", 5)", x.ofCell(cell, 5), want[cell]);
        }
        Grainwright most = Pieces.of("121", "212", "121");
        most.misfit(1, 2, 9);
        Check.due("the most", most.ofCell(4, 5), 36);
    }

    @Sentence(in = "Promise 16", says = "Throws `IndexOutOfBoundsException` if there is no such CELL")
    static void ofCellThrowsOfNoCell() {
        for (int wrong : Pieces.outside(0, Pieces.CELLS_OF_FULL - 1)) {
            Check.outside("ofCell(" + wrong + ", 0)", x -> x.ofCell(wrong, 0));
            Check.outside("ofCell(" + wrong + ", -1), the first of two", x -> x.ofCell(wrong, -1));
            Check.outside("ofCell(" + wrong + ", 6), the first of two", x -> x.ofCell(wrong, 6));
        }
        Check.outsideWithoutLattice("ofCell(0, 0)", x -> x.ofCell(0, 0));
        Check.outsideWithoutLattice("ofCell(0, 6), the first of two", x -> x.ofCell(0, 6));
    }

    @Sentence(in = "Promise 16", says = "Throws `IllegalArgumentException` if what is not 0 to 5")
    static void ofCellThrowsOfNoWhat() {
        for (int wrong : Pieces.outside(0, 5)) {
            Check.illegalOfCell("ofCell(0, " + wrong + ")", x -> x.ofCell(0, wrong));
            Check.illegalOfCell("ofCell(8, " + wrong + ") of a PARTICLE", x -> x.ofCell(8, wrong));
            Check.illegalOfCell("ofCell(23, " + wrong + ")", x -> x.ofCell(23, wrong));
        }
    }

    @Sentence(in = "Promise 17", says = "0 its MARK, 1 SIZE, 2 ROUND, 3 on how many GRAINS it BORDERS, 4 its "
            + "smallest CELL, "
            + "5 WORK of it, 6 how many of its CELLS are HARD")
    static void ofGrain() {
        Grainwright x = Pieces.of("112", "1*2", "332");
        x.work(0, 3);
        x.work(3, 4);
        x.work(6, 5);
        Pieces.harden(x, 3, 6, 7);
        int[][] want = {{1, 3, 4, 2, 0, 7, 1}, {2, 3, 3, 2, 2, 0, 0}, {3, 2, 3, 2, 6, 5, 2}};
        for (int etch = 1; etch <= 9; etch += 8) {
            x.etch(etch);
            for (int grain = 0; grain < 3; grain++) {
                for (int what = 0; what <= 6; what++) {
                    Check.due("ofGrain(" + grain + ", " + what + ") by ETCH " + etch, x.ofGrain(grain, what),
                            want[grain][what]);
                }
            }
        }
        Grainwright alone = Pieces.of("11", "11");
        int[] wantAlone = {1, 4, 0, 0, 0, 0, 0};
        for (int what = 0; what <= 6; what++) {
            Check.due("ofGrain(0, " + what + ") of one alone", alone.ofGrain(0, what), wantAlone[what]);
        }
        Pieces.hardenAll(alone);
        Check.due("ofGrain(0, 6) of all HARD", alone.ofGrain(0, 6), 4);
        Grainwright most = Pieces.checkerboard();
        Check.due("the last of 64 GRAINS", most.ofGrain(63, 4), 63);
        Check.due("one in the middle BORDERS on", most.ofGrain(9, 3), 4);
    }

    @Sentence(in = "Promise 17", says = "1 SIZE, 2 ROUND, 3 on how many GRAINS it BORDERS")
    static void ofTheGreatestGrains() {
        Grainwright all = Pieces.utmost();
        int[] wantAll = {64, 0, 0, 0, 64 * 20, 64};
        for (int what = 1; what <= 6; what++) {
            Check.due("ofGrain(0, " + what + ") of 64 CELLS", all.ofGrain(0, what), wantAll[what - 1]);
        }
        Grainwright comb = Pieces.comb();
        // All seven pairs in each row but the first, and four below the first.
        int[] wantComb = {36, 7 * 7 + 4, 28, 0, 0, 0};
        for (int what = 1; what <= 6; what++) {
            Check.due("ofGrain(0, " + what + ") of a comb", comb.ofGrain(0, what), wantComb[what - 1]);
        }
        Check.due("sided(28) of a comb", comb.sided(28), 1);
        Check.due("sided(3) of a comb", comb.sided(3), 20);
        Check.due("sided(2) of a comb", comb.sided(2), 8);
    }

    @Sentence(in = "Promise 17", says = "Throws `IndexOutOfBoundsException` if there is no such GRAIN")
    static void ofGrainThrowsOfNoGrain() {
        for (int wrong : Pieces.outside(0, Pieces.GRAINS_OF_FULL - 1)) {
            Check.outside("ofGrain(" + wrong + ", 0)", x -> x.ofGrain(wrong, 0));
            Check.outside("ofGrain(" + wrong + ", -1), the first of two", x -> x.ofGrain(wrong, -1));
            Check.outside("ofGrain(" + wrong + ", 7), the first of two", x -> x.ofGrain(wrong, 7));
        }
        Check.outsideWithoutLattice("ofGrain(0, 0)", x -> x.ofGrain(0, 0));
        Check.outsideWithoutLattice("ofGrain(0, 7), the first of two", x -> x.ofGrain(0, 7));
        Check.refused(IndexOutOfBoundsException.class, "ofGrain(0, 0) of PARTICLES", Pieces.of("**", "**"),
                x -> x.ofGrain(0, 0));
        // By its ETCH of 4 six are SEEN, but all nine GRAINS are told.
        Check.due("ofGrain(8, 0), the last GRAIN", Pieces.full().ofGrain(8, 0), 9);
        Grainwright one = Pieces.full();
        one.lattice(2, 2, 1);
        Check.refused(IndexOutOfBoundsException.class, "ofGrain(1, 0) behind lattice(2, 2, 1)", one,
                x -> x.ofGrain(1, 0));
    }

    @Sentence(in = "Promise 17", says = "Throws `IllegalArgumentException` if what is not 0 to 6")
    static void ofGrainThrowsOfNoWhat() {
        for (int wrong : Pieces.outside(0, 6)) {
            Check.illegalOfCell("ofGrain(0, " + wrong + ")", x -> x.ofGrain(0, wrong));
            Check.illegalOfCell("ofGrain(8, " + wrong + ")", x -> x.ofGrain(8, wrong));
        }
    }

    private static void dueOfMetal(String name, Grainwright x, int... want) {
        for (int what = 0; what <= 15; what++) {
            Check.due("metal(" + what + ") of " + name, x.metal(what), want[what]);
        }
    }

    @Sentence(in = "Promise 18", says = "0 ENERGY, 1 GRAINS, 2 SEEN GRAINS, 3 size by AREA, 4 by LINES, 5 by "
            + "CHART, 6 BIAS, "
            + "7 JUNCTIONS, 8 STRENGTH, 9 CUTS of all LINES, 10 PARTICLES, 11 HARD CELLS, 12 WORK of all CELLS, "
            + "13 CELLS, 14 numbers DRAWN ever")
    static void metal() {
        Grainwright x = Pieces.of("123", "423", "*55");
        x.misfit(2, 3, 4);
        x.misfit(1, 4, 2);
        x.work(0, 3);
        x.work(8, 4);
        Pieces.harden(x, 0, 8);
        // ENERGY: rows 1 + 4, 1 + 4, 0; columns 2 + 0, 0 + 1, 0 + 1; and 14.
        // JUNCTIONS: {1, 2, 4}, {2, 3}, {4, 2, 5}, {2, 3, 5}.
        dueOfMetal("etch 1", x, 14 + 14, 5, 5, 800 / 5, 1800 / (9 + 6), 3, 0, 3,
                20 + 100 + 4 + 6 + 3, 9, 1, 2, 7, 9, 9, 2);
        x.etch(2);
        // SEEN: 2 and 3 twice, 1 and 4, the PARTICLE twice; GRAINS by these: one, by way of 1 and 2, 2 and 4, 5 and 3.
        dueOfMetal("etch 2", x, 28, 5, 1, 800, 1800 / (5 + 6), 0, 160 - 800, 3,
                20 + 55 + 4 + 6 + 3, 5, 1, 2, 7, 9, 9, 2);
    }

    @Sentence(in = "Promise 18", says = "0 ENERGY, 1 GRAINS, 2 SEEN GRAINS, 3 size by AREA, 4 by LINES, 5 by "
            + "CHART, 6 BIAS")
    static void metalOfTheGreatestNumbers() {
        // DRAWN: 64.
        dueOfMetal("64 CELLS, HARD, with all WORK", Pieces.utmost(), 2 * 64 * 20, 1, 1, 6400, 12800 / 16, 0, 0, 0,
                20 + 3 * 64 + 32 * 20, 0, 0, 64, 64 * 20, 64, 64, 64);
        Grainwright board = Pieces.checkerboard();
        board.misfit(1, 2, 9);
        for (int cell = 0; cell < 64; cell++) {
            board.work(cell, 20);
        }
        board.etch(9);
        dueOfMetal("64 GRAINS", board, 112 * 9 + 2 * 64 * 20, 64, 64, 100, 12800 / (112 + 16), 6, 0, 0,
                20 + 175 + 32 * 20, 112, 0, 0, 64 * 20, 64, 64, 1);
        board.misfit(1, 2, 8);
        dueOfMetal("64 GRAINS that are one", board, 112 * 8 + 2 * 64 * 20, 64, 1, 6400, 12800 / 16, 0, 100 - 6400, 0,
                20 + 32 * 20, 0, 0, 0, 64 * 20, 64, 64, 1);
        Grainwright three = Pieces.of("12312312", "31231231", "23123123", "12312312", "31231231", "23123123",
                "12312312", "31231231");
        Check.due("JUNCTIONS, all of 49", three.metal(7), 49);
        Grainwright particles = Pieces.checkerboard();
        for (int cell = 0; cell < 64; cell++) {
            particles.pin(cell);
        }
        dueOfMetal("64 PARTICLES", particles, 0, 0, 0, 0, 12800 / 16, 0, 0, 0, 20 + 4 * 64, 0, 64, 0, 0, 64, 64, 0);
    }

    @Sentence(in = "Promise 18", says = "14 numbers DRAWN ever")
    static void metalOfManyNumbersDrawn() {
        Grainwright x = new Grainwright();
        x.lattice(8, 8, 1);
        for (int call = 0; call < 300; call++) {
            x.heat(5, 12);
        }
        Check.due("DRAWN by 300 calls of 1536", x.metal(14), 64 + 300 * 12 * 128);
        Check.due("seed() tells them, too", x.seed(1), 64 + 300 * 12 * 128);
    }

    @Sentence(in = "Promise 18", says = "15 the greatest SIZE of a GRAIN (0 without any)")
    static void metalOfTheGreatestGrain() {
        Check.due("without any", Pieces.of("**", "**").metal(15), 0);
        Check.due("without a LATTICE", new Grainwright().metal(15), 0);
        Check.due("the last one", Pieces.of("122", "322").metal(15), 4);
        Check.due("the first one", Pieces.of("112", "113").metal(15), 4);
        Grainwright x = Pieces.of("12", "34");
        x.etch(9);
        Check.due("not a SEEN one", x.metal(15), 1);
    }

    @Sentence(in = "Promise 18", says = "(0 of 3, 5 and 6, if all CELLS are PARTICLES; 0 of all but 14 without "
            + "a LATTICE)")
    static void metalOfParticlesAndWithoutALattice() {
        dueOfMetal("PARTICLES", Pieces.of("**", "**"), 0, 0, 0, 0, 200, 0, 0, 0, 36, 0, 4, 0, 0, 4, 4, 0);
        Grainwright etched = Pieces.of("**", "**");
        etched.etch(9);
        dueOfMetal("PARTICLES by ETCH 9", etched, 0, 0, 0, 0, 200, 0, 0, 0, 36, 0, 4, 0, 0, 4, 4, 0);
        Grainwright none = new Grainwright();
        none.seed(500);
        none.etch(3);
        none.misfit(1, 2, 7);
        none.heat(9, 12);
        none.roll(9);
        none.born(1);
        none.cool(9, 0, 50);
        none.furnace(215);
        dueOfMetal("no LATTICE", none, 0, 0, 0, 0, 0, 0, 0, 0, 0, 0, 0, 0, 0, 0, 0, 0);
    }

    @Sentence(in = "Promise 18", says = "Throws `IllegalArgumentException` if what is not 0 to 15")
    static void metalThrows() {
        for (int wrong : Pieces.outside(0, 15)) {
            Check.illegal("metal(" + wrong + ")", x -> x.metal(wrong));
        }
    }

    @Sentence(in = "Promise 19", says = "which one of its NEIGHBOURS, from 0 on")
    static void changeFromTheFirstNeighbourOn() {
        Grainwright x = Pieces.of("123", "456");
        x.misfit(1, 3, 2);
        x.misfit(1, 5, 4);
        x.misfit(3, 5, 7);
        // CELL 1 has 3 on the right, 5 below, 1 on the left.
        Check.due("change(1, 0)", x.change(1, 0), (7 + 2) - 3);
        Check.due("change(1, 1)", x.change(1, 1), (7 + 4) - 3);
        Check.due("change(1, 2)", x.change(1, 2), (2 + 4) - 3);
    }

    @Sentence(in = "Promise 19", says = "Returns CHANGE to the MARK of that, by that (HARD or not, of the same "
            + "MARK, too; "
            + "0, if one of both is a PARTICLE).")
    static void changeOfHardOnesAndParticles() {
        Grainwright x = Pieces.of("123", "12*");
        x.misfit(2, 3, 5);
        x.misfit(1, 3, 4);
        // CELL 1 has 3 on the right, 2 below, 1 on the left.
        Check.due("of the same MARK", x.change(1, 1), 0);
        x.work(1, 6);
        Check.due("of the same MARK, for its WORK", x.change(1, 1), -12);
        Check.due("of another one, for its WORK", x.change(1, 0), 3 - 12);
        x.work(2, 1);
        Check.due("by one with WORK", x.change(1, 0), 3);
        Pieces.harden(x, 1, 2);
        Check.due("of a HARD one by a HARD one", x.change(1, 0), 3);
        Check.due("of a HARD one", x.change(1, 1), -12);
        x.work(2, 20);
        Check.due("to a PARTICLE", x.change(2, 0), 0);
        Check.due("of a PARTICLE by one without WORK", x.change(5, 1), 0);
        Check.due("of a PARTICLE", x.change(5, 0), 0);
        Check.due("of a PARTICLE to a PARTICLE", Pieces.of("**", "12").change(0, 0), 0);
    }

    @Sentence(in = "Promise 19", says = "Returns CHANGE to the MARK of that, by that")
    static void changeFromTheLeastToTheMost() {
        Grainwright least = Pieces.of("232", "313", "232");
        for (int cell = 1; cell < 9; cell += 2) {
            least.mark(cell, 3);
        }
        least.misfit(1, 3, 9);
        least.work(4, 20);
        for (int neighbour = 0; neighbour < 4; neighbour++) {
            Check.due("change(4, " + neighbour + "), the least", least.change(4, neighbour), -4 * 9 - 2 * 20);
        }
        Grainwright most = Pieces.of("121", "313", "131");
        most.misfit(2, 3, 9);
        Check.due("change(4, 0), the most", most.change(4, 0), 3 * 9 - 4);
    }

    @Sentence(in = "Promise 19",
            says = "Throws `IndexOutOfBoundsException` if there is no such CELL, or it has no such NEIGHBOUR")
    static void changeThrows() {
        for (int wrong : Pieces.outside(0, Pieces.CELLS_OF_FULL - 1)) {
            Check.outside("change(" + wrong + ", 0)", x -> x.change(wrong, 0));
            Check.outside("change(" + wrong + ", 4)", x -> x.change(wrong, 4));
        }
        // CELLS of 8 by 3: a corner, an edge, a PARTICLE at an edge, the middle, an edge, a corner.
        int[] cells = {0, 1, 8, 9, 15, 23};
        int[] neighbours = {2, 3, 3, 4, 3, 2};
        for (int k = 0; k < cells.length; k++) {
            int cell = cells[k];
            Pieces.full().change(cell, 0);
            Pieces.full().change(cell, neighbours[k] - 1);
            for (int wrong : Pieces.outside(0, neighbours[k] - 1)) {
                Check.outside("change(" + cell + ", " + wrong + ")", x -> x.change(cell, wrong));
            }
        }
        Check.outsideWithoutLattice("change(0, 0)", x -> x.change(0, 0));
        Check.outsideWithoutLattice("change(0, -1)", x -> x.change(0, -1));
    }

    @Sentence(in = "Promise 20", says = "Returns TEXTURE of it (0 without a LATTICE).")
    static void textureReturns() {
        Grainwright x = Pieces.of("112", "1*3", "444");
        Check.due("texture(1)", x.texture(1), 333);
        Check.due("texture(9)", x.texture(9), 0);
        Check.due("texture(1) of PARTICLES", Pieces.of("**", "**").texture(1), 0);
        for (int mark = 1; mark <= 9; mark++) {
            Check.due("texture(" + mark + ") without a LATTICE", new Grainwright().texture(mark), 0);
        }
    }

    @Sentence(in = "Promise 20", says = "Throws `IllegalArgumentException` if mark is not 1 to 9")
    static void textureThrows() {
        for (int wrong : Pieces.outside(1, 9)) {
            Check.illegal("texture(" + wrong + ")", x -> x.texture(wrong));
        }
    }

    @Sentence(in = "Promise 21", says = "Returns how many pairs of NEIGHBOURS there are with just these two.")
    static void wallReturns() {
        Grainwright x = Pieces.of("121", "213", "3*9");
        Check.due("wall(1, 2)", x.wall(1, 2), 5);
        Check.due("wall(2, 1)", x.wall(2, 1), 5);
        Check.due("wall(9, 3)", x.wall(9, 3), 1);
        Check.due("wall(1, 3)", x.wall(1, 3), 2);
        Check.due("wall(4, 5) of none", x.wall(4, 5), 0);
        Check.due("wall(3, 2), at corners and once", x.wall(3, 2), 1);
        x.etch(9);
        Check.due("wall(1, 2), not by what is SEEN", x.wall(1, 2), 5);
        Check.due("wall(1, 2) of the most", Pieces.checkerboard().wall(1, 2), 112);
        Check.due("wall(1, 2) of one of both", Pieces.of("11", "11").wall(1, 2), 0);
        Check.due("wall(1, 2) without a LATTICE", new Grainwright().wall(1, 2), 0);
    }

    @Sentence(in = "Promise 21",
            says = "Throws `IllegalArgumentException` if one or other is not 1 to 9, or both are the same")
    static void wallThrows() {
        for (int wrong : Pieces.outside(1, 9)) {
            Check.illegal("wall(" + wrong + ", 1)", x -> x.wall(wrong, 1));
            Check.illegal("wall(9, " + wrong + ")", x -> x.wall(9, wrong));
        }
        for (int mark = 0; mark <= 10; mark++) {
            int same = mark;
            Check.illegal("wall(" + mark + ", " + mark + ")", x -> x.wall(same, same));
        }
        Check.due("wall(1, 9)", Pieces.of("19", "91").wall(1, 9), 4);
    }

    @Sentence(in = "Promise 22", says = "a LINE: a row (as many as HIGH), then, behind these, a column")
    static void rowsThenColumns() {
        Grainwright x = Pieces.of("12123", "11223");
        int[] cuts = {4, 2, 0, 1, 1, 0, 0};
        for (int line = 0; line < 7; line++) {
            Check.due("line(" + line + ", true)", x.line(line, true), cuts[line]);
        }
    }

    @Sentence(in = "Promise 22", says = "whether its CUTS, otherwise how many CELLS it has")
    static void cutsOrCells() {
        int[][] sizes = {{2, 2}, {8, 8}, {2, 8}, {8, 2}, {5, 3}};
        for (int[] size : sizes) {
            Grainwright x = new Grainwright();
            x.lattice(size[0], size[1], 1);
            for (int line = 0; line < size[0] + size[1]; line++) {
                String of = " of " + size[0] + " by " + size[1];
                Check.due("line(" + line + ", false)" + of, x.line(line, false), line < size[1] ? size[0] : size[1]);
                Check.due("line(" + line + ", true)" + of, x.line(line, true), 0);
            }
        }
        for (int line = 0; line < 16; line++) {
            Check.due("line(" + line + ", true) of the most", Pieces.checkerboard().line(line, true), 7);
        }
    }

    @Sentence(in = "Promise 22", says = "Throws `IndexOutOfBoundsException` if there is no such LINE")
    static void lineThrows() {
        for (int wrong : Pieces.outside(0, 10)) {
            Check.outside("line(" + wrong + ", true)", x -> x.line(wrong, true));
            Check.outside("line(" + wrong + ", false)", x -> x.line(wrong, false));
        }
        Check.due("line(10, false), the last one", Pieces.full().line(10, false), 3);
        Check.outsideWithoutLattice("line(0, true)", x -> x.line(0, true));
        Check.outsideWithoutLattice("line(0, false)", x -> x.line(0, false));
    }

    @Sentence(in = "Promise 23", says = "Returns how many GRAINS BORDER on just so many others.")
    static void sidedReturns() {
        Grainwright x = Pieces.of("123", "222", "4*5");
        int[] want = {0, 4, 0, 0, 1, 0, 0};
        for (int many = 0; many <= 6; many++) {
            Check.due("sided(" + many + ")", x.sided(many), want[many]);
        }
        Check.due("sided(0) of two that are alone", Pieces.of("1*", "*1").sided(0), 2);
        Check.due("sided(0) of PARTICLES", Pieces.of("**", "**").sided(0), 0);
        for (int many : new int[] {7, 8, 16, 32, 64, 128, 256, 1 << 16, 1 << 30, Integer.MAX_VALUE}) {
            Check.due("sided(" + many + ") of five", x.sided(many), 0);
            Check.due("sided(" + many + ") of one alone", Pieces.of("11", "11").sided(many), 0);
        }
        Check.due("sided(0) without a LATTICE", new Grainwright().sided(0), 0);
        Grainwright most = Pieces.checkerboard();
        Check.due("sided(4) of the most", most.sided(4), 36);
        Check.due("sided(3) of the most", most.sided(3), 24);
        Check.due("sided(2) of the most", most.sided(2), 4);
        most.etch(9);
        Check.due("sided(4), not by what is SEEN", most.sided(4), 36);
        // One that goes round 16 others, and BORDERS on each of them.
        Grainwright around = Pieces.of("11111111", "12131415", "11111111", "16171819", "11111111", "12131415",
                "11111111", "16171819");
        Check.due("sided(16)", around.sided(16), 1);
    }

    @Sentence(in = "Promise 23", says = "Throws `IllegalArgumentException` if many is below 0")
    static void sidedThrows() {
        for (int wrong : new int[] {-1, -2, -1000, Integer.MIN_VALUE}) {
            Check.illegal("sided(" + wrong + ")", x -> x.sided(wrong));
        }
    }

    @Sentence(in = "Promise 24", says = "Returns the LATTICE: row by row, with \"/\" between, each CELL as its MARK, "
            + "\"*\" of a PARTICLE; \"-\" without a LATTICE.")
    static void picture() {
        Check.due("without a LATTICE", new Grainwright().picture(), "-");
        Check.due("wide", Pieces.of("123456", "78*9*1").picture(), "123456/78*9*1");
        Check.due("high", Pieces.of("12", "34", "56", "78").picture(), "12/34/56/78");
        Check.due("PARTICLES", Pieces.of("**", "**").picture(), "**/**");
        Grainwright x = Pieces.of("12", "3*");
        x.etch(9);
        Pieces.hardenAll(x);
        Check.due("neither by ETCH nor HARD", x.picture(), "12/3*");
        Check.due("the most", Pieces.checkerboard().picture().length(), 71);
    }

    @Sentence(in = "Promise 25", says = "as picture(), but each CELL as the smallest MARK in its SEEN GRAIN")
    static void etched() {
        Check.due("without a LATTICE", new Grainwright().etched(), "-");
        Check.due("PARTICLES", Pieces.of("**", "**").etched(), "**/**");
        Grainwright x = Pieces.of("975", "*86");
        Check.due("by ETCH 1", x.etched(), "975/*86");
        x.misfit(7, 9, 4);
        x.misfit(5, 7, 3);
        x.misfit(6, 8, 3);
        x.etch(3);
        // Not SEEN: 7 and 8, 5 and 6.
        Check.due("by ETCH 3", x.etched(), "975/*75");
        x.etch(4);
        Check.due("by ETCH 4", x.etched(), "955/*55");
        x.etch(9);
        Check.due("by ETCH 9", x.etched(), "555/*55");
        Check.due("the smallest comes last", etchedBy9("98", "71"), "11/11");
        Check.due("the smallest comes first", etchedBy9("12", "98"), "11/11");
        Check.due("PARTICLES stay, and part", etchedBy9("9*3", "8*4"), "8*3/8*3");
    }

    private static String etchedBy9(String... rows) {
        Grainwright x = Pieces.of(rows);
        x.etch(9);
        return x.etched();
    }

    @Sentence(in = "Promise 25", says = "and HARD ones as \"#\"")
    static void etchedHardOnes() {
        Grainwright x = Pieces.of("95", "*8");
        Pieces.harden(x, 1);
        Check.due("by ETCH 1", x.etched(), "9#/*8");
        x.etch(9);
        Check.due("a HARD one's MARK counts", x.etched(), "5#/*5");
        Pieces.hardenAll(x);
        Check.due("all HARD", x.etched(), "##/*#");
    }
}
