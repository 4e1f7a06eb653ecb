/** The sentences of part 1: the lattice. */
final class LatticeSentences {
    private static final String IN = "1. The lattice";

    private LatticeSentences() {
    }

    @Sentence(in = IN, says = "The LATTICE is WIDE (2 to 8) and HIGH (2 to 8) CELLS")
    static void from2By2To8By8() {
        for (int wide = 2; wide <= 8; wide++) {
            for (int high = 2; high <= 8; high++) {
                int many = wide * high;
                Grainwright x = new Grainwright();
                Check.due(wide + " by " + high + " of one MARK", x.lattice(wide, high, 1), 1);
                Check.due(wide + " by " + high + " CELLS", x.metal(13), many);
                Check.due("MARK of the last of " + many, x.mark(many - 1, 2), 1);
                Check.due("row of " + wide, x.line(high - 1, false), wide);
                Check.due("column of " + high, x.line(high, false), high);
                Check.refused(IndexOutOfBoundsException.class, "mark(" + many + ", 2)", x, y -> y.mark(many, 2));
            }
        }
    }

    @Sentence(in = IN, says = "numbered row by row from above, each row from the left on, from 0")
    static void numberedRowByRow() {
        Grainwright x = new Grainwright();
        x.lattice(4, 3, 1);
        int[] cells = {0, 3, 4, 11};
        for (int k = 0; k < cells.length; k++) {
            x.mark(cells[k], 2 + k);
        }
        Check.due("0, 3, 4, 11 of 4 by 3", x.picture(), "2113/4111/1115");
    }

    @Sentence(in = IN, says = "NEIGHBOURS of a CELL are those above, on the right, below, and on the left of it "
            + "(in this order)")
    static void neighboursInTheirOrder() {
        Grainwright x = Pieces.of("121", "513", "141");
        int[] around = {2, 3, 4, 5};
        for (int which = 0; which < 4; which++) {
            x.misfit(1, around[which], around[which]);
            x.misfit(around[which], around[(which + 1) % 4], 2 + which);
        }
        // With the MARK of each: MISFIT with the one ahead, the one behind, and the one across.
        int[] want = {2 + 5 + 1, 2 + 3 + 1, 3 + 4 + 1, 4 + 5 + 1};
        for (int which = 0; which < 4; which++) {
            Check.due("change(4, " + which + ")", x.change(4, which), want[which] - 14);
        }
    }

    @Sentence(in = IN, says = "as far as they are in the LATTICE")
    static void neighboursAreInTheLattice() {
        for (int wide = 2; wide <= 8; wide++) {
            for (int high = 2; high <= 8; high++) {
                dueOfNeighbours(wide, high);
            }
        }
    }

    private static void dueOfNeighbours(int wide, int high) {
        Grainwright x = new Grainwright();
        x.lattice(wide, high, 1);
        for (int cell = 0; cell < wide * high; cell++) {
            int row = cell / wide;
            int column = cell % wide;
            int many = (row > 0 ? 1 : 0) + (row < high - 1 ? 1 : 0)
                    + (column > 0 ? 1 : 0) + (column < wide - 1 ? 1 : 0);
            int found = 0;
            while (found < 6 && hasNeighbour(x, cell, found)) {
                found++;
            }
            Check.due("NEIGHBOURS of " + cell + " in " + wide + " by " + high, found, many);
        }
    }

    private static boolean hasNeighbour(Grainwright x, int cell, int neighbour) {
        try {
            x.change(cell, neighbour);
            return true;
        } catch (IndexOutOfBoundsException e) {
            return false;
        }
    }

    @Sentence(in = IN, says = "as far as they are in the LATTICE")
    static void noNeighboursAcrossTheEdge() {
        for (int wide = 2; wide <= 8; wide++) {
            for (int high = 2; high <= 8; high++) {
                for (int cell = 0; cell < wide * high; cell++) {
                    dueBesideOne(wide, high, cell);
                }
            }
        }
    }

    private static void dueBesideOne(int wide, int high, int cell) {
        Grainwright x = new Grainwright();
        x.lattice(wide, high, 1);
        x.mark(cell, 2);
        int beside = 0;
        for (int other = 0; other < wide * high; other++) {
            int far = Math.abs(cell / wide - other / wide) + Math.abs(cell % wide - other % wide);
            String of = " in " + wide + " by " + high;
            if (other != cell) {
                Check.due("others beside " + other + of + ", if " + cell + " is one", x.ofCell(other, 3),
                        far == 1 ? 1 : 0);
                beside += far == 1 ? 1 : 0;
            }
        }
        Check.due("others beside " + cell + " in " + wide + " by " + high, x.ofCell(cell, 3), beside);
    }

    @Sentence(in = IN, says = "Each CELL has a MARK (1 to 9), or is a PARTICLE (MARK 0)")
    static void marksAreFrom1To9OrParticles() {
        Grainwright x = Pieces.of("19", "*5");
        int[] want = {1, 9, 0, 5};
        for (int cell = 0; cell < 4; cell++) {
            Check.due("MARK of " + cell, x.ofCell(cell, 0), want[cell]);
        }
    }

    @Sentence(in = IN, says = "and WORK (0 to 20), that of a PARTICLE is 0")
    static void workIsFrom0To20() {
        Grainwright x = Pieces.of("19", "35");
        Check.due("at first", x.work(0, 20), 0);
        Check.due("20", x.work(0, 0), 20);
        Check.due("0", x.work(0, 20), 0);
        x.pin(0);
        Check.due("of what is a PARTICLE now", x.ofCell(0, 1), 0);
        x.roll(9);
        x.roll(9);
        Check.due("of a PARTICLE that is rolled", x.ofCell(0, 1), 0);
        Check.due("of the others", x.metal(12), 60);
    }

    @Sentence(in = IN, says = "MISFIT of two different MARKS: 1 to 9 (1 at first; the same for both orders)")
    static void misfitOfTwoMarks() {
        Grainwright x = new Grainwright();
        for (int one = 1; one <= 9; one++) {
            for (int other = one + 1; other <= 9; other++) {
                Check.due("at first, of " + one + " and " + other, x.misfit(other, one, 9), 1);
            }
        }
        Check.due("the most, in the other order", x.misfit(1, 9, 1), 9);
        Check.due("the least, in the first order", x.misfit(9, 1, 5), 1);
        Check.due("others stay", x.misfit(8, 9, 1), 9);
    }

    @Sentence(in = IN, says = "that of a MARK with itself is 0")
    static void misfitOfAMarkWithItself() {
        for (int mark = 1; mark <= 9; mark++) {
            Grainwright x = Pieces.of("11", "11");
            for (int cell = 0; cell < 4; cell++) {
                x.mark(cell, mark);
            }
            Check.due("ENERGY of " + mark + " alone", x.metal(0), 0);
            Check.due("MISFIT around " + mark + " alone", x.ofCell(3, 5), 0);
        }
    }

    @Sentence(in = IN, says = "that of a PARTICLE with anything is 0")
    static void misfitOfAParticle() {
        Grainwright x = Pieces.of("*9", "*1");
        Check.due("beside a PARTICLE and 9", x.ofCell(0, 5), 0);
        Check.due("beside a PARTICLE and 1", x.ofCell(2, 5), 0);
        Check.due("of 9, beside a PARTICLE and 1", x.ofCell(1, 5), 1);
        Check.due("ENERGY", x.metal(0), 1);
    }

    @Sentence(in = IN, says = "ENERGY: MISFIT of all pairs of NEIGHBOURS, and 2 * WORK of all CELLS, together.")
    static void energyFromTheLeastToTheMost() {
        Grainwright x = new Grainwright();
        x.lattice(8, 8, 1);
        Check.due("the least ENERGY", x.metal(0), 0);
        Grainwright most = Pieces.checkerboard();
        most.misfit(1, 2, 9);
        for (int cell = 0; cell < 64; cell++) {
            most.work(cell, 20);
        }
        Check.due("the most ENERGY", most.metal(0), 112 * 9 + 2 * 64 * 20);
        Grainwright y = Pieces.of("12", "34");
        y.misfit(1, 2, 2);
        y.misfit(2, 4, 3);
        y.misfit(3, 4, 4);
        y.misfit(1, 3, 5);
        y.misfit(1, 4, 9);
        y.misfit(2, 3, 9);
        y.work(3, 1);
        Check.due("ENERGY of each pair once, none across corners", y.metal(0), 2 + 3 + 4 + 5 + 2);
    }

    @Sentence(in = IN, says = "how much more ENERGY there would be, if it had that MARK")
    static void changeIsMoreEnergy() {
        Grainwright x = Pieces.of("123", "12*");
        x.misfit(2, 3, 5);
        x.misfit(1, 3, 4);
        // CELL 1 has 3 on the right, 2 below, 1 on the left.
        Check.due("CHANGE to 3", x.change(1, 0), (5 + 4) - (5 + 1));
        Check.due("CHANGE to 2, its own", x.change(1, 1), 0);
        Check.due("CHANGE to 1, below 0", x.change(1, 2), (4 + 1) - (5 + 1));
        Check.due("it is not done", x.picture(), "123/12*");
    }

    @Sentence(in = IN, says = "and (if WORK of that NEIGHBOUR is 0) WORK of 0")
    static void changeTakesWorkOf0() {
        Grainwright x = Pieces.of("12", "12");
        x.work(1, 6);
        Check.due("from WORK of 6 to WORK of 0", x.change(1, 1), -12);
        x.work(0, 1);
        Check.due("WORK of that NEIGHBOUR is 1", x.change(1, 1), 0);
        x.work(0, 0);
        x.work(3, 20);
        Check.due("WORK of the other NEIGHBOUR is 20", x.change(1, 1), -12);
    }

    @Sentence(in = IN, says = "A GRAIN is a set of CELLS with one MARK that hang together by NEIGHBOURS, as "
            + "large as can be.")
    static void grainsHangTogetherByNeighbours() {
        Check.due("GRAINS at corners", Pieces.of("12", "21").metal(1), 4);
        Check.due("GRAINS at the edges", Pieces.of("121", "222", "121").metal(1), 5);
        Grainwright spiral = Pieces.of("11111", "22221", "11121", "12221", "11111");
        Check.due("GRAINS of a spiral", spiral.metal(1), 2);
        Check.due("SIZE of the outer one", spiral.ofGrain(0, 1), 17);
        Check.due("SIZE of the inner one", spiral.ofGrain(1, 1), 8);
        Grainwright whole = new Grainwright();
        whole.lattice(8, 8, 1);
        Check.due("SIZE of all of it", whole.ofGrain(0, 1), 64);
        Check.due("GRAINS of PARTICLES", Pieces.of("**", "**").metal(1), 0);
    }

    @Sentence(in = IN, says = "GRAINS are numbered from 0 on in the order of their smallest CELLS.")
    static void grainsByTheirSmallestCells() {
        Grainwright x = Pieces.of("*32", "1*2", "112");
        int[] cells = {-1, 0, 1, 2, -1, 1, 2, 2, 1};
        for (int cell = 0; cell < 9; cell++) {
            Check.due("GRAIN of " + cell, x.ofCell(cell, 4), cells[cell]);
        }
        int[] smallest = {1, 2, 3};
        for (int grain = 0; grain < 3; grain++) {
            Check.due("smallest CELL of " + grain, x.ofGrain(grain, 4), smallest[grain]);
        }
    }

    @Sentence(in = IN, says = "SIZE is how many CELLS it has")
    static void sizeIsHowManyCells() {
        Grainwright x = Pieces.of("1*2", "112");
        Check.due("SIZE of 0", x.ofGrain(0, 1), 3);
        Check.due("SIZE of 1", x.ofGrain(1, 1), 2);
        Check.due("SIZE of one CELL", Pieces.of("12", "11").ofGrain(1, 1), 1);
    }

    @Sentence(in = IN, says = "(PARTICLES count; the edge of the LATTICE does not)")
    static void roundCountsParticlesButNoEdge() {
        Check.due("ROUND of the whole LATTICE", Pieces.of("11", "11").ofGrain(0, 2), 0);
        Grainwright x = Pieces.of("1*", "12");
        Check.due("ROUND of 0, with a PARTICLE", x.ofGrain(0, 2), 2);
        Check.due("ROUND of 1, with a PARTICLE", x.ofGrain(1, 2), 2);
        Check.due("ROUND of one within", Pieces.of("111", "121", "111").ofGrain(1, 2), 4);
        Check.due("ROUND of one around", Pieces.of("111", "121", "111").ofGrain(0, 2), 4);
    }

    @Sentence(in = IN, says = "GRAINS BORDER on each other by such a pair.")
    static void grainsBorderByAPair() {
        Grainwright x = Pieces.of("12", "34");
        Check.due("no BORDER at a corner", x.ofGrain(0, 3), 2);
        Check.due("no BORDER through a PARTICLE", Pieces.of("1*", "*2").ofGrain(0, 3), 0);
        Check.due("a BORDER of two pairs is one", Pieces.of("11", "22").ofGrain(0, 3), 1);
        Check.due("two GRAINS of one MARK are two", Pieces.of("121", "222").ofGrain(1, 3), 2);
    }
}
