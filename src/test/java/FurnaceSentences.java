/** The sentences of part 5: the furnace. */
final class FurnaceSentences {
    private static final String IN = "5. The furnace";

    private FurnaceSentences() {
    }

    /** As many kinds of metal as are asked for, with PARTICLES, WORK and HARD ones. */
    static Grainwright metal(int kind) {
        Grainwright x = new Grainwright();
        x.seed(kind);
        x.lattice(2 + kind % 4, 5, 3 + kind % 7);
        x.roll(2 + kind % 2);
        x.curve(9, 20);
        if (kind % 3 == 0) {
            x.pin(7);
            x.pin(8);
            x.misfit(1, 2, 5);
            x.misfit(3, 4, 2);
            x.cool(9, 9, 50);
            x.etch(2);
        }
        return x;
    }

    static void step(Grainwright x, int step) {
        switch (step) {
            case 0 -> x.heat(2, 2);
            case 1 -> x.heat(6, 2);
            case 2 -> x.heat(9, 1);
            case 3 -> x.roll(1);
            default -> x.born(6);
        }
    }

    @Sentence(in = IN, says = "STEPS: 0 to hold (2 SWEEPS with a HEAT of 2), 1 to soak (2 SWEEPS with a HEAT of 6), "
            + "2 to melt nearly (1 SWEEP with a HEAT of 9), 3 to ROLL, 4 to be BORN with a BAR of 6.")
    static void eachStep() {
        for (int kind = 0; kind < 12; kind++) {
            for (int step = 0; step < 5; step++) {
                Grainwright one = metal(kind);
                step(one, step);
                Grainwright other = metal(kind);
                Check.due("size by STEP " + step + " of " + kind, other.furnace(step + 1), one.metal(3));
                Check.due("what STEP " + step + " leaves of " + kind, Pieces.state(other), Pieces.state(one));
            }
        }
    }

    /** For a STEP the HEAT and how many SWEEPS, and others that are near to these. */
    private static void dueOfHeat(int step, int heat, int sweeps, int[][] others) {
        int[] differing = new int[others.length];
        for (int seed = 0; seed < 40; seed++) {
            Grainwright x = manyMisfits(seed);
            x.furnace(step + 1);
            Check.due("STEP " + step + " from " + seed + " on", x.digest(), heated(seed, heat, sweeps));
            for (int k = 0; k < others.length; k++) {
                differing[k] += x.digest() != heated(seed, others[k][0], others[k][1]) ? 1 : 0;
            }
        }
        for (int k = 0; k < others.length; k++) {
            Check.due("STEP " + step + " can be told from a HEAT of " + others[k][0] + " and " + others[k][1]
                    + " SWEEPS", differing[k] > 0, true);
        }
    }

    static Grainwright manyMisfits(int seed) {
        Grainwright x = new Grainwright();
        x.seed(seed);
        x.lattice(8, 8, 9);
        for (int mark = 1; mark <= 8; mark++) {
            x.misfit(mark, mark + 1, 1 + (mark + seed) % 9);
        }
        x.work(5, 9);
        x.pin(27);
        x.pin(36);
        return x;
    }

    private static long heated(int seed, int heat, int sweeps) {
        Grainwright x = manyMisfits(seed);
        x.heat(heat, sweeps);
        return x.digest();
    }

    @Sentence(in = IN, says = "0 to hold (2 SWEEPS with a HEAT of 2)")
    static void toHold() {
        dueOfHeat(0, 2, 2, new int[][] {{1, 2}, {3, 2}, {2, 1}, {2, 3}});
    }

    @Sentence(in = IN, says = "1 to soak (2 SWEEPS with a HEAT of 6)")
    static void toSoak() {
        dueOfHeat(1, 6, 2, new int[][] {{5, 2}, {7, 2}, {6, 1}, {6, 3}});
    }

    @Sentence(in = IN, says = "2 to melt nearly (1 SWEEP with a HEAT of 9)")
    static void toMelt() {
        dueOfHeat(2, 9, 1, new int[][] {{8, 1}, {7, 1}, {9, 2}});
    }

    @Sentence(in = IN, says = "3 to ROLL")
    static void toRoll() {
        Grainwright x = Pieces.of("12", "34");
        x.furnace(4);
        Check.due("WORK of one ROLL", x.metal(12), 2 + 3 + 1 + 2);
    }

    @Sentence(in = IN, says = "4 to be BORN with a BAR of 6")
    static void theBarIs6() {
        Grainwright x = Pieces.of("12", "34");
        x.work(0, 5);
        x.work(3, 6);
        x.furnace(5);
        Check.due("WORK of 5 stays", x.ofCell(0, 1), 5);
        Check.due("WORK of 6 is gone", x.ofCell(3, 1), 0);
    }

    @Sentence(in = IN, says = "A PROGRAMME is a row of 0 to 3 of these, told as a number: its digits to the base 6, "
            + "the last STEP as the last digit, each one more than its STEP")
    static void digitsOfAProgramme() {
        for (int kind = 0; kind < 3; kind++) {
            for (int programme = 1; programme <= 215; programme++) {
                if (!isProgramme(programme)) {
                    continue;
                }
                Grainwright one = metal(kind);
                for (int place = 36; place > 0; place /= 6) {
                    if (programme >= place) {
                        step(one, programme / place % 6 - 1);
                    }
                }
                Grainwright other = metal(kind);
                Check.due("furnace(" + programme + ") of " + kind, other.furnace(programme), one.metal(3));
                Check.due("what furnace(" + programme + ") leaves", other.digest(), one.digest());
            }
        }
    }

    static boolean isProgramme(int programme) {
        return programme == 0 || !Integer.toString(programme, 6).contains("0");
    }

    @Sentence(in = IN, says = "(0: no STEP)")
    static void noStep() {
        Grainwright x = metal(3);
        String before = Pieces.state(x);
        Check.due("furnace(0)", x.furnace(0), x.metal(3));
        Check.due("what furnace(0) leaves", Pieces.state(x), before);
    }

    /** What each PROGRAMME makes of this kind of metal; -1 if it is none. */
    private static int[] sizes(int kind) {
        int[] sizes = new int[216];
        for (int programme = 0; programme <= 215; programme++) {
            sizes[programme] = isProgramme(programme) ? metal(kind).furnace(programme) : -1;
        }
        return sizes;
    }

    private static int steps(int programme) {
        return programme == 0 ? 0 : Integer.toString(programme, 6).length();
    }

    @Sentence(in = IN, says = "The BEST PROGRAMME for an aim: by which size by AREA differs the least from the aim")
    static void theBestOfAllProgrammes() {
        for (int kind = 0; kind < 10; kind++) {
            int[] sizes = sizes(kind);
            Grainwright x = metal(kind);
            for (int aim = 0; aim <= 6400; aim += aim < 600 ? 25 : 580) {
                int want = 0;
                for (int programme = 1; programme <= 215; programme++) {
                    int nearer = Math.abs(sizes[want] - aim) - Math.abs(sizes[programme] - aim);
                    if (sizes[programme] >= 0 && (nearer > 0 || nearer == 0 && steps(programme) < steps(want))) {
                        want = programme;
                    }
                }
                String of = "best(" + aim + ") of " + kind;
                Check.due(of, x.best(aim, false), want);
                Check.due(of + ", its size", x.best(aim, true), sizes[want]);
            }
        }
    }

    @Sentence(in = IN, says = "The BEST PROGRAMME for an aim: by which size by AREA differs the least from the aim")
    static void theBestForTheGreatestAim() {
        int[] seeds = {0, 4, 21, 26};
        int[] want = {1, 43, 7, 2};
        for (int k = 0; k < seeds.length; k++) {
            Grainwright x = twoGrainsOf64(seeds[k]);
            Check.due("best(6400, false) from " + seeds[k] + " on", x.best(6400, false), want[k]);
            Check.due("best(6400, true) from " + seeds[k] + " on", x.best(6400, true), 6400);
            Check.due("best(4800, true), as near to 3200", x.best(4800, true), 3200);
            Check.due("best(4801, true), nearer to 6400", x.best(4801, true), 6400);
            for (int programme = 0; programme < want[k]; programme++) {
                if (isProgramme(programme)) {
                    int size = twoGrainsOf64(seeds[k]).furnace(programme);
                    Check.due("furnace(" + programme + ") is below", size < 6400, true);
                }
            }
            Check.due("furnace(" + want[k] + ")", twoGrainsOf64(seeds[k]).furnace(want[k]), 6400);
        }
    }

    private static Grainwright twoGrainsOf64(int seed) {
        Grainwright x = new Grainwright();
        x.lattice(8, 8, 1);
        x.mark(63, 2);
        x.seed(seed);
        return x;
    }

    @Sentence(in = IN, says = "done from here on (with the ROW as it is)")
    static void withTheRowAsItIs() {
        Grainwright x = metal(4);
        boolean differs = false;
        for (int seed = 0; seed < 20; seed++) {
            x.seed(seed);
            int first = x.best(0, true);
            x.seed(seed);
            int programme = x.best(0, false);
            differs |= first != x.best(0, true);
            Grainwright other = metal(4);
            other.seed(seed);
            Check.due("furnace(" + programme + ") from " + seed + " on", other.furnace(programme), first);
        }
        Check.due("best() takes none of the ROW", differs, false);
    }

    @Sentence(in = IN, says = "of several that with the fewest STEPS")
    static void ofSeveralTheFewestSteps() {
        Grainwright x = Pieces.of("11", "11");
        Check.due("if nothing alters the size", x.best(6400, false), 0);
        // Only to melt makes this one larger: one STEP of it for each PARTICLE, one after the other.
        Grainwright melting = Pieces.of("1*", "**");
        Check.due("one STEP", melting.best(200, false), 3);
        Check.due("as near by one STEP as by two", melting.best(250, false), 3);
        Check.due("two STEPS", melting.best(300, false), 3 * 6 + 3);
        Check.due("as near by two STEPS as by three", melting.best(350, false), 3 * 6 + 3);
        Check.due("three STEPS", melting.best(400, false), 3 * 36 + 3 * 6 + 3);
        Check.due("as near by none as by one", melting.best(150, false), 0);
    }

    @Sentence(in = IN, says = "then the smallest number")
    static void thenTheSmallestNumber() {
        for (int programme = 0; programme <= 5; programme++) {
            Grainwright one = Pieces.freeLastCell(1);
            one.seed(19);
            int want = programme >= 1 && programme <= 3 ? 133 : 100;
            Check.due("furnace(" + programme + ")", one.furnace(programme), want);
        }
        Grainwright x = Pieces.freeLastCell(1);
        x.seed(19);
        Check.due("of 1, 2, and 3", x.best(133, false), 1);
        Check.due("of 1, 2, and 3, none near", x.best(6400, false), 1);
        Check.due("of 0, 4, and 5", x.best(100, false), 0);
    }
}
