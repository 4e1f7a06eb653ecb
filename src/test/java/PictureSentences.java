/** The sentences of part 4: pictures and sizes. */
final class PictureSentences {
    private static final String IN = "4. Pictures and sizes";

    private PictureSentences() {
    }

    @Sentence(in = IN, says = "ETCH (1 to 9; 1 at first)")
    static void etchIs1AtFirst() {
        Grainwright x = Pieces.of("12", "12");
        Check.due("SEEN GRAINS at first, MISFIT 1", x.metal(2), 2);
        Check.due("etch(2)", x.etch(2), 1);
        Check.due("etch(1)", x.etch(1), 2);
        x.misfit(1, 2, 9);
        Check.due("etch(9), MISFIT 9", x.etch(9), 2);
        x.misfit(1, 2, 8);
        Check.due("etch(9), MISFIT 8", x.etch(9), 1);
    }

    @Sentence(in = IN, says = "a pair of NEIGHBOURS of different MARKS is SEEN, if MISFIT is ETCH or more")
    static void seenFromTheEtchOn() {
        for (int misfit = 1; misfit <= 9; misfit++) {
            for (int etch = 1; etch <= 9; etch++) {
                Grainwright x = Pieces.of("37", "33");
                x.misfit(3, 7, misfit);
                x.etch(etch);
                String of = " of MISFIT " + misfit + " by ETCH " + etch;
                Check.due("CUTS" + of, x.metal(9), misfit >= etch ? 2 : 0);
                Check.due("SEEN GRAINS" + of, x.metal(2), misfit >= etch ? 2 : 1);
            }
        }
        Check.due("CUTS of one MARK", Pieces.of("11", "11").metal(9), 0);
    }

    @Sentence(in = IN, says = "a pair with a PARTICLE and none is SEEN always")
    static void particlesAreSeenAlways() {
        for (int etch = 1; etch <= 9; etch++) {
            Grainwright x = Pieces.of("1*", "11");
            x.etch(etch);
            Check.due("CUTS by ETCH " + etch, x.metal(9), 2);
            Grainwright two = Pieces.of("1**", "1**");
            two.etch(etch);
            Check.due("CUTS of PARTICLES that touch by ETCH " + etch, two.metal(9), 2);
            Grainwright none = Pieces.of("**", "**");
            none.etch(etch);
            Check.due("CUTS of PARTICLES alone by ETCH " + etch, none.metal(9), 0);
        }
    }

    @Sentence(in = IN, says = "SEEN GRAINS are made as GRAINS, but through all pairs of two MARKS that are not SEEN.")
    static void seenGrainsGoThroughWhatIsNotSeen() {
        Grainwright chain = Pieces.of("12", "13");
        chain.misfit(1, 3, 9);
        Check.due("through another one", chain.etch(5), 1);
        Check.due("its CUTS are SEEN", chain.metal(9), 1);
        Check.due("of PARTICLES alone", Pieces.of("**", "**").etch(9), 0);
        Check.due("not through PARTICLES", Pieces.of("1*", "*1").etch(9), 2);
        Check.due("not across corners", Pieces.of("1*2", "*3*", "4*5").etch(9), 5);
        Grainwright wide = new Grainwright();
        wide.lattice(8, 8, 9);
        Check.due("all of it", wide.etch(2), 1);
        Grainwright same = Pieces.of("112", "321");
        same.misfit(1, 2, 4);
        same.misfit(1, 3, 4);
        same.misfit(2, 3, 3);
        // 1 1 | 2 above 3 2 | 1: only 2 and 3 below hang together.
        Check.due("pairs of one MARK, and those that are not SEEN", same.etch(4), 4);
    }

    @Sentence(in = IN, says = "By AREA: how many CELLS are no PARTICLES, in hundredths of a CELL for each SEEN GRAIN "
            + "(0 without any, and without a LATTICE).")
    static void byArea() {
        Grainwright x = new Grainwright();
        Check.due("without a LATTICE", x.metal(3), 0);
        x.lattice(8, 8, 1);
        Check.due("the most, 64 CELLS of one", x.metal(3), 6400);
        Grainwright many = Pieces.checkerboard();
        Check.due("64 of 64", many.metal(3), 100);
        many.etch(2);
        Check.due("64 of one that is SEEN", many.metal(3), 6400);
        Check.due("without any", Pieces.of("**", "**").metal(3), 0);
        Check.due("PARTICLES are left out", Pieces.of("1*2", "1*2").metal(3), 200);
        Check.due("one CELL", Pieces.of("1*", "**").metal(3), 100);
    }

    @Sentence(in = IN, says = "each row (from 0 on) and each column (behind these) is a LINE; CUTS of it are "
            + "its pairs that are SEEN")
    static void linesAndTheirCuts() {
        Grainwright x = Pieces.of("1234", "11*4", "1133");
        int[] cuts = {3, 2, 1, 0, 1, 2, 1};
        for (int line = 0; line < 7; line++) {
            Check.due("CUTS of LINE " + line, x.line(line, true), cuts[line]);
        }
        x.misfit(2, 3, 2);
        x.etch(2);
        int[] etchedCuts = {1, 2, 0, 0, 0, 2, 0};
        for (int line = 0; line < 7; line++) {
            Check.due("CUTS of LINE " + line + " by ETCH 2", x.line(line, true), etchedCuts[line]);
        }
    }

    @Sentence(in = IN, says = "size is (100 * CELLS of all LINES, which is 2 * WIDE * HIGH) "
            + "/ (CUTS of all LINES + how many LINES there are)")
    static void byLines() {
        Grainwright x = new Grainwright();
        x.lattice(8, 8, 1);
        Check.due("no CUTS", x.metal(4), 12800 / 16);
        Check.due("the most CUTS", Pieces.checkerboard().metal(4), 12800 / (112 + 16));
        Check.due("of another WIDE than HIGH", Pieces.of("12345678", "12345678").metal(4), 3200 / (14 + 10));
        Check.due("PARTICLES alone", Pieces.of("**", "**").metal(4), 800 / 4);
    }

    @Sentence(in = IN, says = "By CHART: the least n of 0 or more with 2^n of how many SEEN GRAINS there are, or more.")
    static void byChart() {
        int[] most = {1, 2, 4, 8, 16, 32, 64};
        for (int grains = 0; grains <= 64; grains++) {
            Grainwright x = Pieces.checkerboard();
            for (int cell = grains; cell < 64; cell++) {
                x.pin(cell);
            }
            int want = 0;
            while (most[want] < grains) {
                want++;
            }
            Check.due("SEEN GRAINS", x.metal(2), grains);
            Check.due("CHART of " + grains, x.metal(5), want);
        }
        Grainwright hidden = Pieces.of("123", "456", "789");
        hidden.etch(2);
        Check.due("CHART of nine of which one is SEEN", hidden.metal(5), 0);
    }

    @Sentence(in = IN, says = "BIAS: by AREA with all pairs seen (as with ETCH 1), less by AREA (0 or below).")
    static void bias() {
        Grainwright x = Pieces.of("12", "34");
        Check.due("by ETCH 1", x.metal(6), 0);
        x.etch(2);
        Check.due("by ETCH 2", x.metal(6), 100 - 400);
        x.misfit(1, 2, 9);
        x.misfit(1, 3, 9);
        Check.due("if one is SEEN", x.metal(6), 100 - 200);
        Grainwright most = Pieces.checkerboard();
        most.etch(9);
        Check.due("the farthest below 0", most.metal(6), 100 - 6400);
    }

    @Sentence(in = IN, says = "JUNCTIONS: squares of 2 by 2 CELLS with three different MARKS or more")
    static void junctions() {
        String[][] three = {{"11", "23"}, {"12", "13"}, {"12", "33"}, {"12", "32"}, {"12", "34"}, {"98", "79"}};
        for (String[] rows : three) {
            Check.due("JUNCTIONS of " + rows[0] + "/" + rows[1], Pieces.of(rows).metal(7), 1);
        }
        String[][] two = {{"12", "21"}, {"11", "22"}, {"12", "22"}, {"11", "11"}};
        for (String[] rows : two) {
            Check.due("JUNCTIONS of " + rows[0] + "/" + rows[1], Pieces.of(rows).metal(7), 0);
        }
        Check.due("in a row", Pieces.of("1213", "3424").metal(7), 3);
        Check.due("in a column", Pieces.of("13", "24", "15", "15").metal(7), 2);
        Check.due("not across the edge", Pieces.of("1112", "1113").metal(7), 1);
        Grainwright x = Pieces.of("12", "34");
        x.etch(9);
        Check.due("by MARKS, not by what is SEEN", x.metal(7), 1);
        Grainwright all = Pieces.of("12121212", "34343434", "12121212", "34343434", "12121212", "34343434", "12121212",
                "34343434");
        Check.due("the most", all.metal(7), 49);
    }

    @Sentence(in = IN, says = "(PARTICLES do not count as MARKS, but may be in it)")
    static void junctionsWithParticles() {
        String[][] three = {{"*1", "23"}, {"1*", "23"}, {"12", "*3"}, {"12", "3*"}};
        for (String[] rows : three) {
            Check.due("JUNCTIONS of " + rows[0] + "/" + rows[1], Pieces.of(rows).metal(7), 1);
        }
        String[][] two = {{"12", "1*"}, {"*2", "12"}, {"**", "12"}, {"1*", "*2"}, {"**", "**"}};
        for (String[] rows : two) {
            Check.due("JUNCTIONS of " + rows[0] + "/" + rows[1], Pieces.of(rows).metal(7), 0);
        }
    }

    @Sentence(in = IN, says = "STRENGTH: 20, and (100 * CUTS of all LINES) / CELLS of the LATTICE, and 4 for "
            + "each PARTICLE, "
            + "and 3 for each HARD CELL, and WORK of all CELLS / 2, together.")
    static void strength() {
        Grainwright x = Pieces.of("11", "11");
        Check.due("the least", x.metal(8), 20);
        x.work(0, 3);
        Check.due("WORK of 3", x.metal(8), 20 + 1);
        x.work(1, 3);
        Check.due("WORK of 3 and 3", x.metal(8), 20 + 3);
        Pieces.harden(x, 2);
        Check.due("one HARD", x.metal(8), 20 + 3 + 3);
        x.mark(2, 2);
        Check.due("2 CUTS of 4 CELLS", x.metal(8), 20 + 50 + 3 + 3);
        x.etch(2);
        Check.due("none of them SEEN", x.metal(8), 20 + 3 + 3);
        x.pin(3);
        Check.due("a PARTICLE, with 2 CUTS", x.metal(8), 20 + 50 + 4 + 3 + 3);
        Check.due("7 CUTS of 6 CELLS", Pieces.of("121", "212").metal(8), 20 + 116);
        Check.due("PARTICLES alone", Pieces.of("**", "**").metal(8), 20 + 16);
        Grainwright most = Pieces.checkerboard();
        Check.due("112 CUTS of 64 CELLS", most.metal(8), 20 + 175);
        for (int cell = 0; cell < 64; cell++) {
            most.work(cell, 20);
        }
        most.curve(9, 1);
        most.curve(8, 1);
        most.cool(9, 8, 32);
        Check.due("and all of them HARD, with WORK of 20", most.metal(8), 20 + 175 + 3 * 64 + 640);
    }

    @Sentence(in = IN, says = "TEXTURE of a MARK: its CELLS in thousandths of all CELLS.")
    static void texture() {
        Grainwright x = Pieces.of("112", "1*3", "444");
        int[] want = {333, 111, 111, 333, 0, 0, 0, 0, 0};
        for (int mark = 1; mark <= 9; mark++) {
            Check.due("texture(" + mark + ")", x.texture(mark), want[mark - 1]);
        }
        Check.due("all", Pieces.of("99", "99").texture(9), 1000);
        Grainwright one = new Grainwright();
        one.lattice(8, 8, 1);
        one.mark(63, 9);
        Check.due("one of 64", one.texture(9), 15);
        Check.due("63 of 64", one.texture(1), 984);
    }
}
