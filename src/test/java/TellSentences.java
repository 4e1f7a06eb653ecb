/** The sentences of promises 1 to 8: what is told of the lattice. */
final class TellSentences {
    private TellSentences() {
    }

    @Sentence(in = "Promise 1", says = "Creates a furnace without a LATTICE.")
    static void withoutALattice() {
        Grainwright x = new Grainwright();
        Check.due("picture()", x.picture(), "-");
        Check.due("metal(13)", x.metal(13), 0);
        Check.refused(IndexOutOfBoundsException.class, "ofCell(0, 0)", x, y -> y.ofCell(0, 0));
        Check.due("numbers DRAWN", x.seed(7), 0);
        // 58288 and, of a LATTICE's numbers, 16 of metal(), 9 of TEXTURE and 7 of sided(), all 0; then 7 and 1.
        long want = 58288;
        for (int k = 0; k < 32; k++) {
            want *= 31;
        }
        Check.due("digest()", x.digest(), (want * 31 + 7) * 31 + 1);
    }

    @Sentence(in = "Promise 2", says = "Makes a LATTICE anew, without PARTICLES, WORK, and HARD CELLS")
    static void latticeIsMadeAnew() {
        Grainwright x = Pieces.full();
        x.lattice(8, 3, 1);
        Check.due("PARTICLES", x.metal(10), 0);
        Check.due("HARD CELLS", x.metal(11), 0);
        Check.due("WORK", x.metal(12), 0);
        Check.due("picture()", x.picture(), "11111111/11111111/11111111");
        x.lattice(2, 2, 1);
        Check.due("a smaller one", x.picture(), "11/11");
        x.pin(3);
        x.lattice(8, 8, 1);
        Check.due("a greater one", x.metal(10) + x.metal(11) + x.metal(12), 0);
    }

    @Sentence(in = "Promise 2", says = "Makes a LATTICE anew, without PARTICLES, WORK, and HARD CELLS")
    static void latticeOfAnotherForm() {
        int[][] forms = {{8, 8}, {2, 2}, {2, 8}, {8, 2}, {5, 3}, {3, 5}, {4, 4}};
        for (int[] first : forms) {
            for (int[] then : forms) {
                Grainwright x = new Grainwright();
                x.lattice(first[0], first[1], 9);
                x.roll(3);
                x.pin(3);
                Pieces.hardenAll(x);
                x.seed(5);
                x.lattice(then[0], then[1], 4);
                Grainwright fresh = new Grainwright();
                fresh.seed(5);
                fresh.lattice(then[0], then[1], 4);
                String call = then[0] + " by " + then[1] + " behind " + first[0] + " by " + first[1];
                Check.due(call, toldOfForm(x), toldOfForm(fresh));
            }
        }
    }

    /** What hangs on the form: CELLS, their NEIGHBOURS, and LINES; then what heat makes of it. */
    private static String toldOfForm(Grainwright x) {
        StringBuilder text = new StringBuilder(x.picture());
        int wide = text.indexOf("/");
        int cells = x.metal(13);
        for (int cell = 0; cell < cells; cell++) {
            text.append(' ').append(x.ofCell(cell, 2)).append(x.ofCell(cell, 3)).append(x.ofCell(cell, 4));
        }
        for (int line = 0; line < wide + cells / wide; line++) {
            text.append(' ').append(x.line(line, true)).append(' ').append(x.line(line, false));
        }
        for (int what = 0; what < 14; what++) {
            text.append(' ').append(x.metal(what));
        }
        text.append(' ').append(x.heat(9, 3)).append(' ').append(x.picture()).append(' ').append(x.best(300, false));
        return text.toString();
    }

    @Sentence(in = "Promise 2", says = "CELL by CELL a MARK of 1 and (a DRAWN number modulo marks)")
    static void latticeDrawsMarks() {
        // DRAWN: 7, 142, 2437, 497, 281, 4800.
        int[] row = {7, 142, 2437, 497, 281, 4800};
        for (int marks = 1; marks <= 9; marks++) {
            Grainwright x = new Grainwright();
            x.lattice(2, 3, marks);
            for (int cell = 0; cell < 6; cell++) {
                Check.due("lattice(2, 3, " + marks + "), CELL " + cell, x.ofCell(cell, 0), 1 + row[cell] % marks);
            }
            Check.due("DRAWN", x.metal(14), 6);
        }
    }

    @Sentence(in = "Promise 2", says = "MISFITS, CURVE, ETCH, and ROW stay.")
    static void latticeLeavesWhatIsTold() {
        Grainwright x = Pieces.full();
        x.lattice(8, 2, 1);
        for (int mark = 1; mark <= 8; mark++) {
            Check.due("MISFIT of " + mark + " and the next", x.misfit(mark, mark + 1, mark), mark);
            x.mark(mark - 1, mark);
            x.mark(mark + 7, mark);
        }
        for (int degree = 0; degree <= 9; degree++) {
            Check.due("TIME at " + degree, x.curve(degree, 50), 11 + degree);
        }
        // By ETCH 4 four of the seven pairs of NEIGHBOURS in a row are SEEN: those of MISFIT 4 to 7.
        Check.due("CUTS by ETCH 4", x.metal(9), 8);
        Check.due("numbers DRAWN ever", x.metal(14), 24 + 16);
        Grainwright y = Pieces.of("11", "11");
        y.lattice(2, 2, 9);
        y.lattice(2, 2, 9);
        // 281, 4800, 7904, 3335 modulo 9 are 2, 3, 2, 5.
        Check.due("the ROW goes on", y.picture(), "34/36");
    }

    @Sentence(in = "Promise 2", says = "Returns how many GRAINS there are.")
    static void latticeReturnsGrains() {
        Grainwright x = new Grainwright();
        Check.due("lattice(2, 2, 9), 88/83", x.lattice(2, 2, 9), 2);
        Check.due("lattice(3, 2, 4), 211/413", x.lattice(3, 2, 4), 4);
        Check.due("lattice(8, 8, 1)", x.lattice(8, 8, 1), 1);
        x.etch(9);
        x.seed(7);
        Check.due("lattice(2, 2, 9) by ETCH 9", x.lattice(2, 2, 9), 2);
        Grainwright many = new Grainwright();
        Check.due("lattice(8, 8, 9)", many.lattice(8, 8, 9), 52);
        Check.due("GRAINS of it", many.metal(1), 52);
    }

    @Sentence(in = "Promise 2",
            says = "Throws `IllegalArgumentException` if wide or high is not 2 to 8, or marks not 1 to 9")
    static void latticeThrows() {
        for (int wrong : Pieces.outside(2, 8)) {
            Check.illegal("lattice(" + wrong + ", 2, 1)", x -> x.lattice(wrong, 2, 1));
            Check.illegal("lattice(8, " + wrong + ", 9)", x -> x.lattice(8, wrong, 9));
        }
        for (int wrong : Pieces.outside(1, 9)) {
            Check.illegal("lattice(2, 8, " + wrong + ")", x -> x.lattice(2, 8, wrong));
        }
        Check.due("lattice(2, 2, 1)", new Grainwright().lattice(2, 2, 1), 1);
        Grainwright most = new Grainwright();
        most.lattice(8, 8, 9);
        Check.due("CELLS of lattice(8, 8, 9)", most.metal(13), 64);
    }

    @Sentence(in = "Promise 3", says = "Begins the ROW anew.")
    static void seedBeginsAnew() {
        Grainwright x = new Grainwright();
        x.seed(100);
        x.lattice(2, 2, 9);
        // 100, 1723, 4741, 6901 modulo 9: 1, 4, 7, 7.
        Check.due("from 100 on", x.picture(), "25/88");
        x.seed(0);
        Check.due("seed() leaves the LATTICE", x.picture(), "25/88");
        x.lattice(2, 2, 9);
        // 0, 23, 414, 7061 modulo 9: 0, 5, 0, 5.
        Check.due("from 0 on", x.picture(), "16/16");
        x.seed(999);
        x.lattice(2, 2, 9);
        // 999, 624, 2440, 548 modulo 9: 0, 3, 1, 8.
        Check.due("from 999 on", x.picture(), "14/29");
    }

    @Sentence(in = "Promise 3", says = "Returns how many numbers were DRAWN ever.")
    static void seedReturnsHowManyWereDrawn() {
        Grainwright x = new Grainwright();
        Check.due("at first", x.seed(5), 0);
        x.lattice(8, 8, 1);
        Check.due("behind lattice(8, 8, 1)", x.seed(5), 64);
        x.heat(0, 12);
        Check.due("behind heat(0, 12)", x.seed(0), 64 + 12 * 128);
        x.wouldHeat(9, 4, 0);
        x.best(100, true);
        Check.due("behind what would be", x.seed(999), 64 + 12 * 128);
        Check.due("once more", x.seed(7), 64 + 12 * 128);
    }

    @Sentence(in = "Promise 3", says = "Throws `IllegalArgumentException` if seed is not 0 to 999")
    static void seedThrows() {
        for (int wrong : Pieces.outside(0, 999)) {
            Check.illegal("seed(" + wrong + ")", x -> x.seed(wrong));
        }
        for (int right : new int[] {0, 999}) {
            Grainwright x = new Grainwright();
            x.seed(right);
            Check.due("the next behind seed(" + right + ")", Pieces.nextOfRow(x), right);
        }
    }

    @Sentence(in = "Promise 4", says = "Gives a CELL a MARK.")
    static void markIsGiven() {
        Grainwright x = Pieces.of("12", "34");
        for (int mark = 1; mark <= 9; mark++) {
            x.mark(3, mark);
            Check.due("mark(3, " + mark + ") leaves", x.picture(), "12/3" + mark);
        }
        Check.due("DRAWN", x.metal(14), 4);
    }

    @Sentence(in = "Promise 4", says = "(A PARTICLE is none any more; WORK stays, and whether it is HARD.)")
    static void markOfAParticleAndOfAHardOne() {
        Grainwright x = Pieces.of("1*", "23");
        x.mark(1, 9);
        Check.due("PARTICLES", x.metal(10), 0);
        Check.due("WORK of what was a PARTICLE", x.ofCell(1, 1), 0);
        Check.due("it is not HARD", x.ofCell(1, 2), 0);
        x.work(3, 20);
        x.work(2, 6);
        Pieces.harden(x, 3);
        x.mark(3, 9);
        x.mark(2, 9);
        Check.due("WORK of a HARD one", x.ofCell(3, 1), 20);
        Check.due("HARD stays HARD", x.ofCell(3, 2), 1);
        Check.due("WORK of another one", x.ofCell(2, 1), 6);
        Check.due("not HARD stays so", x.ofCell(2, 2), 0);
    }

    @Sentence(in = "Promise 4", says = "Returns that before (0: it was a PARTICLE).")
    static void markReturnsTheOneBefore() {
        Grainwright x = Pieces.of("12", "*3");
        Check.due("mark(0, 9)", x.mark(0, 9), 1);
        Check.due("mark(0, 9) again", x.mark(0, 9), 9);
        Check.due("mark(2, 5) of a PARTICLE", x.mark(2, 5), 0);
        Check.due("mark(2, 1) behind that", x.mark(2, 1), 5);
    }

    @Sentence(in = "Promise 4", says = "Throws `IndexOutOfBoundsException` if there is no such CELL")
    static void markThrowsOfNoCell() {
        for (int wrong : Pieces.outside(0, Pieces.CELLS_OF_FULL - 1)) {
            Check.outside("mark(" + wrong + ", 1)", x -> x.mark(wrong, 1));
            Check.outside("mark(" + wrong + ", 10), the first of two", x -> x.mark(wrong, 10));
        }
        Check.outsideWithoutLattice("mark(0, 1)", x -> x.mark(0, 1));
        Check.outsideWithoutLattice("mark(0, 0), the first of two", x -> x.mark(0, 0));
        Check.due("mark(0, 1), the first CELL", Pieces.full().mark(0, 1), 1);
        Check.due("mark(23, 1), the last CELL", Pieces.full().mark(23, 1), 9);
    }

    @Sentence(in = "Promise 4", says = "Throws `IllegalArgumentException` if mark is not 1 to 9")
    static void markThrowsOfNoMark() {
        for (int wrong : Pieces.outside(1, 9)) {
            Check.illegalOfCell("mark(0, " + wrong + ")", x -> x.mark(0, wrong));
            Check.illegalOfCell("mark(8, " + wrong + ") of a PARTICLE", x -> x.mark(8, wrong));
            Check.illegalOfCell("mark(23, " + wrong + ") of a HARD one", x -> x.mark(23, wrong));
        }
    }

    @Sentence(in = "Promise 5", says = "Makes a CELL a PARTICLE (with WORK of 0, not HARD).")
    static void pinTakesWorkAndHardness() {
        Grainwright x = Pieces.of("12", "34");
        x.work(3, 20);
        x.work(0, 5);
        Pieces.harden(x, 3, 0);
        x.pin(3);
        Check.due("MARK", x.ofCell(3, 0), 0);
        Check.due("WORK", x.ofCell(3, 1), 0);
        Check.due("HARD", x.ofCell(3, 2), 0);
        Check.due("picture()", x.picture(), "12/3*");
        Check.due("the others' WORK", x.metal(12), 5);
        Check.due("the others that are HARD", x.metal(11), 1);
    }

    @Sentence(in = "Promise 5", says = "Returns how many PARTICLES there are then.")
    static void pinReturnsHowManyThereAre() {
        Grainwright x = new Grainwright();
        x.lattice(8, 8, 9);
        for (int cell = 0; cell < 64; cell++) {
            Check.due("pin(" + cell + ")", x.pin(cell), cell + 1);
        }
        x.mark(9, 1);
        Check.due("pin(9) behind mark(9, 1)", x.pin(9), 64);
    }

    @Sentence(in = "Promise 5", says = "Throws `IndexOutOfBoundsException` if there is no such CELL")
    static void pinThrowsOfNoCell() {
        for (int wrong : Pieces.outside(0, Pieces.CELLS_OF_FULL - 1)) {
            Check.outside("pin(" + wrong + ")", x -> x.pin(wrong));
        }
        Check.outsideWithoutLattice("pin(0)", x -> x.pin(0));
        Check.due("pin(0), the first CELL", Pieces.full().pin(0), 8);
        Check.due("pin(23), the last CELL", Pieces.full().pin(23), 8);
        Grainwright smaller = Pieces.full();
        smaller.lattice(2, 2, 1);
        Check.refused(IndexOutOfBoundsException.class, "pin(4) behind lattice(2, 2, 1)", smaller, x -> x.pin(4));
    }

    @Sentence(in = "Promise 5", says = "Throws `IllegalStateException` if it is one")
    static void pinThrowsOfAParticle() {
        for (int cell = 8; cell < 15; cell++) {
            int particle = cell;
            Check.refused(IllegalStateException.class, "pin(" + cell + ")", Pieces.full(), x -> x.pin(particle));
        }
        Grainwright x = Pieces.of("12", "34");
        x.pin(3);
        Check.refused(IllegalStateException.class, "pin(3) again", x, y -> y.pin(3));
        x.mark(3, 1);
        Check.due("pin(3) behind mark(3, 1)", x.pin(3), 1);
    }

    @Sentence(in = "Promise 6", says = "Tells WORK of a CELL.")
    static void workIsTold() {
        Grainwright x = Pieces.of("12", "34");
        Pieces.harden(x, 2);
        for (int work = 0; work <= 20; work++) {
            x.work(1, work);
            x.work(2, 20 - work);
            Check.due("work(1, " + work + ") leaves", x.ofCell(1, 1), work);
            Check.due("work of a HARD one", x.ofCell(2, 1), 20 - work);
            Check.due("WORK of all", x.metal(12), 20);
        }
        Check.due("picture()", x.picture(), "12/34");
        Check.due("HARD stays HARD", x.ofCell(2, 2), 1);
    }

    @Sentence(in = "Promise 6", says = "Returns that before.")
    static void workReturnsThatBefore() {
        Grainwright x = Pieces.of("12", "*4");
        Check.due("work(3, 20)", x.work(3, 20), 0);
        Check.due("work(3, 20) again", x.work(3, 20), 20);
        Check.due("work(3, 0)", x.work(3, 0), 20);
        Check.due("work(3, 0) again", x.work(3, 0), 0);
    }

    @Sentence(in = "Promise 6", says = "Throws `IndexOutOfBoundsException` if there is no such CELL")
    static void workThrowsOfNoCell() {
        for (int wrong : Pieces.outside(0, Pieces.CELLS_OF_FULL - 1)) {
            Check.outside("work(" + wrong + ", 0)", x -> x.work(wrong, 0));
            Check.outside("work(" + wrong + ", -1), the first of two", x -> x.work(wrong, -1));
            Check.outside("work(" + wrong + ", 21), the first of two", x -> x.work(wrong, 21));
        }
        Check.outsideWithoutLattice("work(0, 0)", x -> x.work(0, 0));
        Check.outsideWithoutLattice("work(0, 21), the first of two", x -> x.work(0, 21));
        Check.due("work(0, 0), the first CELL", Pieces.full().work(0, 0), 2);
        Check.due("work(23, 0), the last CELL", Pieces.full().work(23, 0), 0);
    }

    @Sentence(in = "Promise 6", says = "Throws `IllegalArgumentException` if work is not 0 to 20")
    static void workThrowsOfNoWork() {
        for (int wrong : Pieces.outside(0, 20)) {
            Check.illegalOfCell("work(3, " + wrong + ")", x -> x.work(3, wrong));
            Check.illegalOfCell("work(8, " + wrong + ") of a PARTICLE, the first of two", x -> x.work(8, wrong));
        }
    }

    @Sentence(in = "Promise 6", says = "Throws `IllegalStateException` if it is a PARTICLE, and work is not 0")
    static void workThrowsOfAParticle() {
        for (int work = 1; work <= 20; work++) {
            int some = work;
            Check.refused(IllegalStateException.class, "work(8, " + some + ")", Pieces.full(), x -> x.work(8, some));
        }
        Grainwright x = Pieces.full();
        String before = Pieces.state(x);
        Check.due("work(8, 0)", x.work(8, 0), 0);
        Check.due("work(8, 0) leaves", Pieces.state(x), before);
    }

    @Sentence(in = "Promise 7", says = "Tells MISFIT of two MARKS.")
    static void misfitIsTold() {
        Grainwright x = Pieces.of("12", "21");
        Check.due("ENERGY of MISFIT 1", x.metal(0), 4);
        x.misfit(1, 2, 9);
        Check.due("ENERGY of MISFIT 9", x.metal(0), 36);
        x.misfit(2, 1, 3);
        Check.due("ENERGY of MISFIT 3, in the other order", x.metal(0), 12);
        x.misfit(1, 3, 8);
        Check.due("ENERGY without the third MARK", x.metal(0), 12);
        x.mark(0, 3);
        Check.due("ENERGY with the third MARK", x.metal(0), 6 + 2);
    }

    @Sentence(in = "Promise 7", says = "Returns that before.")
    static void misfitReturnsThatBefore() {
        Grainwright x = new Grainwright();
        Check.due("misfit(1, 2, 9)", x.misfit(1, 2, 9), 1);
        Check.due("misfit(2, 1, 3)", x.misfit(2, 1, 3), 9);
        Check.due("misfit(1, 2, 3)", x.misfit(1, 2, 3), 3);
        Check.due("misfit(9, 8, 1)", x.misfit(9, 8, 1), 1);
    }

    @Sentence(in = "Promise 7", says = "Throws `IllegalArgumentException` if one or other is not 1 to 9, both "
            + "are the same, "
            + "or misfit is not 1 to 9")
    static void misfitThrows() {
        for (int wrong : Pieces.outside(1, 9)) {
            Check.illegal("misfit(" + wrong + ", 2, 1)", x -> x.misfit(wrong, 2, 1));
            Check.illegal("misfit(2, " + wrong + ", 1)", x -> x.misfit(2, wrong, 1));
            Check.illegal("misfit(1, 2, " + wrong + ")", x -> x.misfit(1, 2, wrong));
            Check.illegal("misfit(" + wrong + ", " + wrong + ", 1)", x -> x.misfit(wrong, wrong, 1));
        }
        for (int mark = 1; mark <= 9; mark++) {
            int same = mark;
            Check.illegal("misfit(" + mark + ", " + mark + ", 1)", x -> x.misfit(same, same, 1));
        }
        Check.due("misfit(1, 9, 9)", new Grainwright().misfit(1, 9, 9), 1);
        Check.due("misfit(9, 1, 1)", new Grainwright().misfit(9, 1, 1), 1);
    }

    @Sentence(in = "Promise 8", says = "Tells ETCH.")
    static void etchIsTold() {
        Grainwright x = Pieces.full();
        for (int etch = 9; etch >= 1; etch--) {
            x.etch(etch);
            Check.due("SEEN GRAINS by ETCH " + etch, x.metal(2), 10 - etch);
            Check.due("GRAINS by ETCH " + etch, x.metal(1), Pieces.GRAINS_OF_FULL);
        }
    }

    @Sentence(in = "Promise 8", says = "Returns how many SEEN GRAINS there are then.")
    static void etchReturnsSeenGrains() {
        Grainwright x = Pieces.full();
        for (int etch = 1; etch <= 9; etch++) {
            Check.due("etch(" + etch + ")", x.etch(etch), 10 - etch);
        }
        Check.due("etch(1) of PARTICLES", Pieces.of("**", "**").etch(1), 0);
        Check.due("etch(1) without a LATTICE", new Grainwright().etch(1), 0);
        Grainwright later = new Grainwright();
        later.etch(2);
        later.lattice(2, 2, 9);
        Check.due("ETCH that was told without a LATTICE", later.metal(2), 1);
    }

    @Sentence(in = "Promise 8", says = "Throws `IllegalArgumentException` if etch is not 1 to 9")
    static void etchThrows() {
        for (int wrong : Pieces.outside(1, 9)) {
            Check.illegal("etch(" + wrong + ")", x -> x.etch(wrong));
        }
    }
}
