/** The sentences of part 2: heat, rolls, and what is BORN. */
final class HeatSentences {
    private static final String IN = "2. Heat";

    /** CELL, the number of its NEIGHBOUR, a seed: this try comes first, and no later one is of the CELL. */
    private static final int[][] FIRST_TRIES = {{4, 0, 13}, {4, 1, 58}, {4, 2, 67}, {4, 3, 76}, {1, 0, 487}, {1, 1, 10},
        {1, 2, 973}, {0, 0, 9}, {0, 1, 54}, {8, 0, 53}, {8, 1, 8}, {3, 1, 507}, {3, 2, 3}, {5, 0, 14}, {5, 1, 968},
        {5, 2, 482}, {7, 0, 484}, {7, 1, 7}, {7, 2, 988}, {2, 0, 29}, {2, 1, 20}, {6, 0, 69}, {6, 1, 24}};

    /** Above, on the right, below, on the left of each CELL of 3 by 3. */
    private static final int[][] AROUND = {{1, 3}, {2, 4, 0}, {5, 1}, {0, 4, 6}, {1, 5, 7, 3}, {2, 8, 4}, {3, 7},
        {4, 8, 6}, {5, 7}};

    private HeatSentences() {
    }

    @Sentence(in = IN, says = "A SWEEP with a HEAT (0 to 9): as many times as there are CELLS")
    static void asManyTimesAsThereAreCells() {
        int[][] sizes = {{2, 2}, {8, 8}, {5, 3}};
        for (int[] size : sizes) {
            for (int heat = 0; heat <= 9; heat += 9) {
                int many = size[0] * size[1];
                Grainwright x = new Grainwright();
                x.lattice(size[0], size[1], 1);
                x.heat(heat, 1);
                // Of one MARK, so that no third number is DRAWN.
                Check.due("DRAWN by " + many + " and a SWEEP", x.metal(14), many + 2 * many);
                x.heat(heat, 12);
                Check.due("DRAWN by 12 SWEEPS more", x.metal(14), many + 26 * many);
            }
        }
    }

    @Sentence(in = IN, says = "a CELL is DRAWN (the number modulo how many there are), then one of its "
            + "NEIGHBOURS (the number modulo how many it has, in their order)")
    static void aCellAndANeighbourAreDrawn() {
        for (int[] first : FIRST_TRIES) {
            int cell = first[0];
            Grainwright x = Pieces.of("123", "456", "789");
            int[] others = new int[8];
            for (int k = 0; k < 8; k++) {
                others[k] = k < cell ? k : k + 1;
            }
            Pieces.harden(x, others);
            x.seed(first[2]);
            String call = "heat(0, 1) from " + first[2] + " on";
            // All MARKS differ, so that each one that is taken spares a MISFIT.
            Check.due(call, x.heat(0, 1), 1);
            Check.due(call + ", MARK of " + cell, x.ofCell(cell, 0), 1 + AROUND[cell][first[1]]);
            Check.due(call + ", DRAWN", x.metal(14), 9 + 2 * 9 + 1);
        }
    }

    @Sentence(in = IN, says = "If one of both is a PARTICLE, or both have the same MARK, nothing more is done.")
    static void particlesAndTheSameMarkEndATry() {
        String[][] pieces = {{"*1", "2*"}, {"**", "**"}, {"77", "77"}, {"1*", "11"}};
        for (String[] rows : pieces) {
            Grainwright x = Pieces.of(rows);
            String call = "heat(7, 3) of " + x.picture();
            String before = x.picture();
            Check.due(call, x.heat(7, 3), 0);
            Check.due(call + ", DRAWN", x.metal(14), 4 + 3 * 8);
            Check.due(call + " leaves", x.picture(), before);
        }
    }

    @Sentence(in = IN, says = "Otherwise a third number is DRAWN")
    static void aThirdNumberIsDrawn() {
        Grainwright x = Pieces.of("12", "12");
        // DRAWN: 7, 142: CELL 3 by 1, the same MARK. 2437, 497, 281: CELL 1 by 0, CHANGE 0.
        // 4800, 7904: CELL 0 by 1, the same by now. 3335, 7572, 5882: CELL 3 by 1, CHANGE -2.
        Check.due("heat(0, 1)", x.heat(0, 1), 2);
        Check.due("it leaves", x.picture(), "11/11");
        Check.due("DRAWN", x.metal(14), 4 + 10);
        Check.due("the next of the ROW", Pieces.nextOfRow(x), 1725);
    }

    /** What CELL 3 of Pieces.freeLastCell does in a SWEEP whose third number modulo 10 this seed tells. */
    private static void dueOfTry(int misfit, int seed, int third, int heat, int want) {
        Grainwright x = Pieces.freeLastCell(misfit);
        x.seed(seed);
        String call = "CHANGE " + (misfit - 2) + ", HEAT " + heat + ", third number " + third;
        Check.due(call, x.heat(heat, 1), want);
        Check.due(call + ", MARK", x.ofCell(3, 0), want == 1 ? 2 : 1);
        Check.due(call + ", DRAWN", x.metal(14), 4 + 8 + 1);
    }

    @Sentence(in = IN, says = "if CHANGE is 0 or less")
    static void changeOf0OrLess() {
        Check.due("CHANGE for MISFIT 2", Pieces.freeLastCell(2).change(3, 0), 0);
        dueOfTry(2, 43, 0, 0, 1);
        dueOfTry(2, 83, 9, 0, 1);
        dueOfTry(1, 43, 0, 0, 1);
        dueOfTry(1, 43, 0, 9, 1);
        dueOfTry(3, 43, 0, 0, 0);
        dueOfTry(3, 83, 9, 0, 0);
    }

    @Sentence(in = IN, says = "or 10 * CHANGE is no more than HEAT * (the third number modulo 10)")
    static void changeByHeat() {
        Check.due("CHANGE for MISFIT 6", Pieces.freeLastCell(6).change(3, 0), 4);
        dueOfTry(6, 19, 5, 8, 1);
        dueOfTry(6, 19, 5, 7, 0);
        dueOfTry(4, 19, 5, 4, 1);
        dueOfTry(4, 19, 5, 3, 0);
        dueOfTry(3, 99, 2, 5, 1);
        dueOfTry(3, 99, 2, 4, 0);
        dueOfTry(3, 43, 0, 9, 0);
        dueOfTry(3, 139, 1, 9, 0);
        dueOfTry(9, 55, 8, 9, 1);
        dueOfTry(9, 123, 7, 9, 0);
        dueOfTry(9, 83, 9, 8, 1);
        dueOfTry(9, 83, 9, 7, 0);
    }

    @Sentence(in = IN, says = "the CELL takes the MARK of the NEIGHBOUR (and WORK of 0, if that of the NEIGHBOUR is 0)")
    static void workOfTheNeighbourSettlesWork() {
        Grainwright lost = Pieces.freeLastCell(6);
        lost.work(3, 2);
        lost.seed(19);
        Check.due("CHANGE of 4 less 2 * 2", lost.change(3, 0), 0);
        Check.due("tries for the WORK", lost.heat(0, 1), 1);
        Check.due("WORK, as that of the NEIGHBOUR is 0", lost.ofCell(3, 1), 0);
        Grainwright kept = Pieces.freeLastCell(6);
        kept.work(3, 2);
        kept.work(1, 1);
        kept.seed(19);
        Check.due("tries with WORK of 1 of the NEIGHBOUR", kept.heat(0, 1), 0);
        kept.seed(19);
        Check.due("tries by HEAT", kept.heat(9, 1), 1);
        Check.due("WORK, as that of the NEIGHBOUR is 1", kept.ofCell(3, 1), 2);
        Check.due("WORK of the NEIGHBOUR", kept.ofCell(1, 1), 1);
    }

    @Sentence(in = IN, says = "Behind each SWEEP with a HEAT of 8 or 9 that PARTICLE is gone")
    static void aParticleIsGoneFromHeatOf8On() {
        for (int heat = 0; heat <= 9; heat++) {
            Grainwright x = Pieces.of("1**", "***");
            x.heat(heat, 1);
            Check.due("PARTICLES behind a SWEEP of " + heat, x.metal(10), heat >= 8 ? 4 : 5);
            x.heat(heat, 3);
            Check.due("PARTICLES behind three more of " + heat, x.metal(10), heat >= 8 ? 1 : 5);
            x.heat(heat, 12);
            Check.due("PARTICLES behind twelve more of " + heat, x.metal(10), heat >= 8 ? 0 : 5);
        }
    }

    @Sentence(in = IN, says = "which has the smallest number of those that have a NEIGHBOUR that is none")
    static void particlesAmongParticlesStay() {
        Grainwright x = Pieces.of("***", "**4", "*5*");
        Pieces.hardenAll(x);
        String[] want = {"**4/**4/*5*", "*44/**4/*5*", "444/**4/*5*", "444/4*4/*5*", "444/444/*5*", "444/444/45*",
            "444/444/454"};
        for (String picture : want) {
            x.heat(8, 1);
            Check.due("heat(8, 1) leaves", x.picture(), picture);
        }
        Grainwright none = Pieces.of("**", "**");
        Check.due("of PARTICLES alone", none.heat(9, 12), 0);
        Check.due("PARTICLES alone stay", none.picture(), "**/**");
    }

    @Sentence(in = IN, says = "it takes the MARK of the first such NEIGHBOUR (with WORK of 0)")
    static void theFirstNeighboursMark() {
        String[][] pieces = {{"123", "4*6", "789"}, {"1*3", "456", "789"}, {"12*", "456", "789"}, {"12*", "45*", "78*"},
            {"1*", "**"}};
        String[] want = {"123/426/789", "133/456/789", "126/456/789", "122/45*/78*", "11/**"};
        for (int k = 0; k < want.length; k++) {
            Grainwright x = Pieces.of(pieces[k]);
            Pieces.hardenAll(x);
            int at = x.picture().replace("/", "").indexOf('*');
            for (int cell = 0; cell < x.metal(13); cell++) {
                x.work(cell, x.ofCell(cell, 0));
            }
            int works = x.metal(12);
            Check.due("no try takes a MARK", x.heat(9, 1), 0);
            Check.due("heat(9, 1) leaves", x.picture(), want[k]);
            Check.due("WORK of what was a PARTICLE", x.ofCell(at, 1), 0);
            Check.due("it is not HARD", x.ofCell(at, 2), 0);
            Check.due("WORK of all", x.metal(12), works);
        }
    }

    @Sentence(in = IN, says = "behind each SWEEP with a HEAT of 1 to 4 WORK of each CELL (HARD ones, too) is 1 "
            + "less (0 at least)")
    static void workIsLessByHeatOf1To4() {
        for (int heat = 0; heat <= 9; heat++) {
            Grainwright x = Pieces.of("11", "11");
            boolean isLess = heat >= 1 && heat <= 4;
            x.work(0, 5);
            x.work(1, 1);
            x.work(2, 20);
            Pieces.harden(x, 0);
            x.heat(heat, 1);
            Check.due("WORK behind a SWEEP of " + heat, x.metal(12), isLess ? 4 + 0 + 19 : 26);
            x.heat(heat, 2);
            Check.due("a HARD one's behind two more of " + heat, x.ofCell(0, 1), isLess ? 2 : 5);
            Check.due("0 at least behind SWEEPS of " + heat, x.ofCell(1, 1), isLess ? 0 : 1);
            Check.due("20 behind three SWEEPS of " + heat, x.ofCell(2, 1), isLess ? 17 : 20);
            Check.due("0 behind three SWEEPS of " + heat, x.ofCell(3, 1), 0);
        }
    }

    @Sentence(in = IN, says = "each CELL that is no PARTICLE has 1 and (its MARK modulo 3) more WORK")
    static void rollingStoresWork() {
        Grainwright x = Pieces.of("123", "456", "789");
        Check.due("roll(1)", x.roll(1), 18);
        int[] want = {2, 3, 1, 2, 3, 1, 2, 3, 1};
        for (int cell = 0; cell < 9; cell++) {
            Check.due("WORK of MARK " + (cell + 1), x.ofCell(cell, 1), want[cell]);
        }
        Grainwright y = Pieces.of("1*", "**");
        y.roll(3);
        Check.due("WORK of PARTICLES", y.metal(12) - y.ofCell(0, 1), 0);
        Check.due("PARTICLES stay", y.picture(), "1*/**");
    }

    @Sentence(in = IN, says = "20 at most")
    static void workIs20AtMost() {
        Grainwright x = Pieces.of("258", "258");
        int[] works = {16, 17, 18, 19, 20, 0};
        int[] want = {19, 20, 20, 20, 20, 3};
        for (int cell = 0; cell < 6; cell++) {
            x.work(cell, works[cell]);
        }
        x.roll(1);
        for (int cell = 0; cell < 6; cell++) {
            Check.due("WORK of " + works[cell] + " and 3", x.ofCell(cell, 1), want[cell]);
        }
        Check.due("roll(9) more", x.roll(9), 6 * 20);
    }

    @Sentence(in = IN, says = "then the MARK of each one whose WORK is above 10 turns to the next one (9 to 1)")
    static void marksTurnAbove10() {
        Grainwright x = Pieces.of("1234", "5678", "9999");
        // By what comes, WORK of the first four is 10; of the next four 11; of the last four 9, 10, 11, 20.
        int[] works = {8, 7, 9, 8, 8, 10, 9, 8, 8, 9, 10, 20};
        for (int cell = 0; cell < 12; cell++) {
            x.work(cell, works[cell]);
        }
        x.roll(1);
        Check.due("roll(1) leaves", x.picture(), "1234/6789/9911");
        Grainwright two = Pieces.of("22", "22");
        for (int cell = 0; cell < 4; cell++) {
            two.work(cell, 8);
        }
        // 8 and 3 by 2, 11 and 1 by 3, 12 and 2 by 4.
        Check.due("the second time goes by the new MARK", two.roll(3), 4 * 14);
        Check.due("roll(3) leaves", two.picture(), "55/55");
    }

    @Sentence(in = IN, says = "with WORK of BAR or more")
    static void bornFromTheBarOn() {
        for (int bar = 1; bar <= 20; bar++) {
            Grainwright x = Pieces.of("12", "34");
            x.work(1, bar);
            x.work(2, bar - 1);
            Check.due("born(" + bar + ")", x.born(bar), 1);
            Check.due("WORK of BAR", x.ofCell(1, 1), 0);
            Check.due("WORK below BAR", x.ofCell(2, 1), bar - 1);
            x.work(1, 20);
            Check.due("born(" + bar + ") of WORK of 20", x.born(bar), 1);
        }
    }

    @Sentence(in = IN, says = "one that is no PARTICLE, with WORK")
    static void noParticleIsBorn() {
        Grainwright x = Pieces.of("1*", "*2");
        x.work(0, 6);
        x.work(3, 6);
        Check.due("born(1) beside PARTICLES", x.born(1), 2);
        Check.due("born(1) without WORK", x.born(1), 0);
        Check.due("PARTICLES", x.metal(10), 2);
    }

    @Sentence(in = IN, says = "and with two NEIGHBOURS or more that have other MARKS or are PARTICLES")
    static void bornBesideTwoOthers() {
        String[] rows = {"111/111/111", "121/111/111", "1*1/111/111", "121/211/111", "1*1/*11/111", "1*1/112/111",
            "121/212/111", "121/2*2/1*1", "121/212/121"};
        int[] want = {0, 0, 0, 1, 1, 1, 1, 0, 1};
        for (int k = 0; k < rows.length; k++) {
            Grainwright x = Pieces.of(rows[k].split("/"));
            x.work(4, rows[k].charAt(5) == '*' ? 0 : 20);
            Check.due("born(20) in the middle of " + rows[k], x.born(20), want[k]);
        }
    }

    @Sentence(in = IN, says = "(as it is then)")
    static void bornAsItIsThen() {
        Grainwright x = Pieces.of("112", "1*3", "114");
        for (int cell : new int[] {0, 1, 2, 3, 5, 6, 7, 8}) {
            x.work(cell, 6);
        }
        x.work(5, 5);
        // 0, 3, 6 have one other at most; 1 (2 and *) gets 1 + 7 % 9; 2 (8 and 3) 1 + 142 % 9;
        // 5 has too little WORK; 7 (* and 4) gets 1 + 2437 % 9; 8 (3 and 8) 1 + 497 % 9.
        Check.due("born(6)", x.born(6), 4);
        Check.due("it leaves", x.picture(), "188/1*3/183");
        Check.due("WORK of those that are not BORN", x.metal(12), 6 + 6 + 5 + 6);
        Check.due("DRAWN", x.metal(14), 9 + 4);
        Grainwright y = Pieces.of("21", "12");
        y.work(0, 6);
        y.work(1, 6);
        y.seed(0);
        // 0 gets 1 + 0 % 9, so that 1 has one other alone by then.
        Check.due("born(6) of two", y.born(6), 1);
        Check.due("the second is not BORN", y.picture(), "11/12");
    }

    @Sentence(in = IN, says = "gets the MARK 1 and (a DRAWN number modulo 9), and WORK of 0")
    static void bornWithADrawnMark() {
        for (int seed = 0; seed <= 9; seed++) {
            Grainwright x = Pieces.of("12", "34");
            x.work(0, 7);
            x.seed(seed);
            Check.due("born(7) from " + seed + " on, of the MARK 1, too", x.born(7), 1);
            Check.due("MARK from " + seed + " on", x.ofCell(0, 0), 1 + seed % 9);
            Check.due("WORK", x.ofCell(0, 1), 0);
            Check.due("the next of the ROW", Pieces.nextOfRow(x), 17 * seed + 23);
        }
    }
}
