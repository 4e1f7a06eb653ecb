import java.math.BigInteger;
import java.util.ArrayList;
import java.util.List;
import java.util.function.Function;
import java.util.function.Supplier;

/** The sentences of promises 26 to 31: what would be, and what sums it all up. */
final class WouldSentences {
    private WouldSentences() {
    }

    @Sentence(in = "Promise 26", says = "what would be (nothing is changed)")
    static void whatWouldBeChangesNothing() {
        for (int kind = 0; kind < 3; kind++) {
            Grainwright x = kind == 0 ? Pieces.full() : kind == 1 ? new Grainwright() : FurnaceSentences.metal(kind);
            String before = Pieces.state(x);
            for (int heat = 0; heat <= 9; heat++) {
                x.wouldHeat(heat, 4, heat);
            }
            x.best(400, true);
            x.best(0, false);
            x.wouldCool(9, 0, 1);
            if (kind != 1) {
                x.least(1, true);
                x.least(3, false);
            }
            Check.due("what would be leaves of " + kind, Pieces.state(x), before);
        }
    }

    @Sentence(in = "Promise 26", says = "what would be (nothing is changed)")
    static void whatIsAskedThenIsOfWhatIs() {
        List<Function<Grainwright, Object>> askings = List.of(x -> x.ofCell(0, 0), x -> x.ofCell(0, 4),
                x -> x.ofGrain(0, 1), x -> x.metal(1), x -> x.metal(9), x -> x.metal(14), x -> x.change(0, 0),
                x -> x.texture(1), x -> x.texture(2), x -> x.wall(1, 2), x -> x.line(0, true), x -> x.line(2, true),
                x -> x.sided(1), x -> x.sided(2), x -> x.picture(), x -> x.etched(), x -> x.least(3, true),
                x -> x.least(3, false), x -> x.wouldCool(9, 0, 1), x -> x.isSound(), x -> x.digest(), x -> x.pin(3),
                x -> x.etch(1), x -> x.heat(0, 1), x -> x.roll(1), x -> x.born(1), x -> x.soften(), x -> x.seed(7));
        for (int which = 0; which < askings.size(); which++) {
            Object want = askings.get(which).apply(soonOfOneMark());
            Grainwright x = soonOfOneMark();
            Check.due("wouldHeat(0, 1, 1)", x.wouldHeat(0, 1, 1), 1);
            Check.due("asking " + which + " behind wouldHeat()", askings.get(which).apply(x), want);
            Grainwright y = soonOfOneMark();
            y.best(6400, true);
            Check.due("asking " + which + " behind best()", askings.get(which).apply(y), want);
            Grainwright z = soonOfOneMark();
            z.least(15, true);
            Check.due("asking " + which + " behind least()", askings.get(which).apply(z), want);
        }
    }

    /** By one SWEEP without HEAT all of it would have the MARK 1. */
    private static Grainwright soonOfOneMark() {
        return Pieces.of("12", "12");
    }

    @Sentence(in = "Promise 26", says = "what would be (nothing is changed)")
    static void whatWouldBeIsAskedAnew() {
        List<Function<Grainwright, Object>> askings = List.of(x -> x.best(0, false), x -> x.best(0, true),
                x -> x.best(700, false), x -> x.best(700, true), x -> x.best(6400, false), x -> x.best(6400, true),
                x -> x.least(1, true), x -> x.least(1, false), x -> x.least(7, true), x -> x.least(7, false),
                x -> x.wouldHeat(3, 2, 0), x -> x.wouldHeat(9, 1, 3), x -> x.wouldHeat(0, 4, 14),
                x -> x.wouldCool(9, 0, 1), x -> x.wouldCool(9, 8, 4));
        for (int which = 0; which < askings.size(); which++) {
            Grainwright often = new Grainwright();
            for (int turn = 0; turn < TURNS; turn++) {
                turn(often, turn);
                Grainwright once = new Grainwright();
                for (int before = 0; before <= turn; before++) {
                    turn(once, before);
                }
                Object want = askings.get(which).apply(once);
                Check.due("asking " + which + " again behind turn " + turn, askings.get(which).apply(often), want);
            }
        }
    }

    private static final int TURNS = 9;

    /** One MARK alone, nine of them, few CELLS and many: each makes far other answers due than the one ahead. */
    private static void turn(Grainwright x, int turn) {
        switch (turn) {
            case 0 -> x.lattice(8, 8, 1);
            case 1 -> x.lattice(8, 8, 9);
            case 2 -> x.roll(6);
            case 3 -> x.lattice(2, 2, 9);
            case 4 -> x.curve(9, 1);
            case 5 -> x.lattice(3, 2, 1);
            case 6 -> x.misfit(8, 9, 5);
            case 7 -> x.lattice(4, 8, 9);
            default -> x.pin(30);
        }
    }

    @Sentence(in = "Promise 26", says = "Returns what metal() would tell behind these.")
    static void wouldHeatReturnsMetal() {
        for (int kind = 3; kind <= 4; kind++) {
            for (int heat = 0; heat <= 9; heat++) {
                for (int sweeps = 1; sweeps <= 4; sweeps++) {
                    Grainwright x = FurnaceSentences.metal(kind);
                    Grainwright other = FurnaceSentences.metal(kind);
                    other.heat(heat, sweeps);
                    for (int what = 0; what <= 15; what++) {
                        String call = "wouldHeat(" + heat + ", " + sweeps + ", " + what + ") of " + kind;
                        Check.due(call, x.wouldHeat(heat, sweeps, what), other.metal(what));
                    }
                }
            }
        }
        wouldHeatOfManyMisfits();
        Grainwright hard = Pieces.checkerboard();
        Check.due("wouldHeat(9, 4, 1) of 64 that are free", hard.wouldHeat(9, 4, 1) < 64, true);
        Pieces.hardenAll(hard);
        Pieces.hardenAll(hard);
        Check.due("HARD CELLS", hard.metal(11), 64);
        Check.due("wouldHeat(9, 4, 1) of 64 that are HARD", hard.wouldHeat(9, 4, 1), 64);
        Check.due("best(6400, true) of 64 that are HARD", hard.best(6400, true), 100);
        for (int what = 0; what <= 15; what++) {
            Check.due("wouldHeat(9, 4, " + what + ") without a LATTICE", new Grainwright().wouldHeat(9, 4, what), 0);
        }
        Check.due("wouldHeat(0, 4, 14)", Pieces.of("11", "11").wouldHeat(0, 4, 14), 4 + 4 * 8);
    }

    /** By many MISFITS each HEAT makes of it what no other one does. */
    private static void wouldHeatOfManyMisfits() {
        for (int seed = 0; seed < 10; seed++) {
            for (int heat = 0; heat <= 9; heat++) {
                Grainwright x = FurnaceSentences.manyMisfits(seed);
                Grainwright other = FurnaceSentences.manyMisfits(seed);
                other.heat(heat, 3);
                for (int what = 0; what <= 15; what++) {
                    String call = "wouldHeat(" + heat + ", 3, " + what + ") from " + seed + " on";
                    Check.due(call, x.wouldHeat(heat, 3, what), other.metal(what));
                }
            }
        }
    }

    @Sentence(in = "Promise 26", says = "Throws `IllegalArgumentException` if heat is not 0 to 9, sweeps not 1 to 4, "
            + "or what not 0 to 15")
    static void wouldHeatThrows() {
        for (int wrong : Pieces.outside(0, 9)) {
            Check.illegal("wouldHeat(" + wrong + ", 1, 0)", x -> x.wouldHeat(wrong, 1, 0));
        }
        for (int wrong : Pieces.outside(1, 4)) {
            Check.illegal("wouldHeat(0, " + wrong + ", 0)", x -> x.wouldHeat(0, wrong, 0));
        }
        for (int wrong : Pieces.outside(0, 15)) {
            Check.illegal("wouldHeat(0, 1, " + wrong + ")", x -> x.wouldHeat(0, 1, wrong));
        }
        Check.due("wouldHeat(0, 1, 0), the least", Pieces.of("11", "11").wouldHeat(0, 1, 0), 0);
        Check.due("wouldHeat(9, 4, 15), the most", Pieces.of("11", "11").wouldHeat(9, 4, 15), 4);
    }

    @Sentence(in = "Promise 27", says = "whether the size that comes of it, otherwise the BEST PROGRAMME")
    static void bestReturnsSizeOrProgramme() {
        Grainwright x = Pieces.of("1*", "**");
        Check.due("best(200, false)", x.best(200, false), 3);
        Check.due("best(200, true)", x.best(200, true), 200);
        Check.due("best(6400, false)", x.best(6400, false), 129);
        Check.due("best(6400, true)", x.best(6400, true), 400);
        Check.due("best(0, false)", x.best(0, false), 0);
        Check.due("best(0, true)", x.best(0, true), 100);
        Check.due("best(6400, false) of PARTICLES", Pieces.of("**", "**").best(6400, false), 0);
        Check.due("best(6400, true) of PARTICLES", Pieces.of("**", "**").best(6400, true), 0);
        Check.due("best(6400, false) without a LATTICE", new Grainwright().best(6400, false), 0);
        Check.due("best(6400, true) without a LATTICE", new Grainwright().best(6400, true), 0);
    }

    @Sentence(in = "Promise 27", says = "Throws `IllegalArgumentException` if aim is not 0 to 6400")
    static void bestThrows() {
        for (int wrong : Pieces.outside(0, 6400)) {
            Check.illegal("best(" + wrong + ", true)", x -> x.best(wrong, true));
            Check.illegal("best(" + wrong + ", false)", x -> x.best(wrong, false));
        }
    }

    @Sentence(in = "Promise 28", says = "a set of 1 to 4 CELLS of the first 30, none of them a PARTICLE, or HARD")
    static void leastOfTheseSets() {
        Grainwright x = new Grainwright();
        x.lattice(8, 8, 1);
        Check.due("one CELL", x.least(1, false), 1);
        Check.due("two CELLS", x.least(3, false), 11);
        Check.due("three CELLS", x.least(7, false), 111);
        Check.due("four CELLS", x.least(15, false), 1111);
        Check.due("the last of the first 30", x.least(1 << 29, false), 1);
        Check.due("the last four of the first 30", x.least(15 << 26, false), 1111);
        Check.due("the first and the last", x.least(1 << 29 | 1, false), 11);
    }

    @Sentence(in = "Promise 28", says = "Returns the least ENERGY that there would be")
    static void leastEnergy() {
        Grainwright x = Pieces.of("131", "332");
        Check.due("least(33, true)", x.least(33, true), 2);
        Check.due("least(1, true)", x.least(1, true), 3);
        Check.due("pairs of two of them", x.least(1 << 2 | 1 << 5, true), 2);
        x.misfit(1, 3, 9);
        Check.due("by MISFIT", x.least(1 << 2, true), 9 + 9 + 1 + 1);
        Grainwright y = Pieces.of("12", "12");
        Check.due("of all CELLS", y.least(15, true), 0);
        Grainwright best = Pieces.of("11", "11");
        Check.due("of what is the least", best.least(15, true), 0);
        Grainwright most = Pieces.checkerboard();
        most.misfit(1, 2, 9);
        for (int cell = 0; cell < 64; cell++) {
            most.work(cell, 20);
        }
        Check.due("of what is the most", most.least(1 << 29, true), (112 - 4) * 9 + 2 * 64 * 20);
    }

    @Sentence(in = "Promise 28", says = "if these CELLS had any MARKS that there are in the LATTICE now")
    static void leastOfTheMarksThereAre() {
        Check.due("only MARKS that there are", Pieces.of("45", "54").least(15, false), 4444);
        Check.due("of one MARK alone", Pieces.of("99", "99").least(15, false), 9999);
        Check.due("a MARK that only these CELLS have", Pieces.of("7*", "*9").least(9, false), 77);
        Grainwright now = Pieces.of("12", "34");
        Check.due("of four MARKS", now.least(15, false), 1111);
        for (int cell = 0; cell < 4; cell++) {
            now.mark(cell, 5);
        }
        Check.due("MARKS that are gone are none", now.least(15, false), 5555);
        Grainwright nine = Pieces.of("123", "456", "789");
        Check.due("of nine MARKS", nine.least(1, false), 2);
        for (int cell = 0; cell < 9; cell++) {
            nine.mark(cell, 8);
        }
        Check.due("of one that is left", nine.least(1, false), 8);
        nine.mark(1, 9);
        nine.misfit(8, 9, 9);
        Check.due("between 8 and 9, all others gone", nine.least(1, false), 8);
        Grainwright last = Pieces.of("123", "456", "789");
        for (int one = 1; one <= 8; one++) {
            for (int other = one + 1; other <= 8; other++) {
                last.misfit(one, other, 9);
            }
        }
        Check.due("of nine MARKS the last one", last.least(1, false), 9);
        Grainwright far = new Grainwright();
        far.lattice(8, 8, 1);
        far.mark(1, 2);
        far.mark(8, 3);
        for (int mark = 1; mark <= 3; mark++) {
            far.misfit(mark, mark % 3 + 1, 9);
        }
        Check.due("CELL 0 between 2 and 3", far.least(1, false), 2);
        far.mark(63, 5);
        Check.due("CELL 0 by a MARK of the last CELL alone", far.least(1, false), 5);
        Grainwright between = Pieces.of("313", "121", "383");
        between.misfit(1, 2, 9);
        between.misfit(2, 8, 9);
        between.misfit(1, 8, 5);
        between.misfit(3, 8, 2);
        between.misfit(1, 3, 3);
        // CELL 4 has 1 above, on the right and on the left, and 8 below: 5 as a 1, 3 * 5 as an 8, 3 * 3 + 2 as a 3.
        Check.due("CELL 4", between.least(16, false), 1);
        between.misfit(1, 8, 9);
        between.misfit(1, 3, 1);
        Check.due("CELL 4 by a MARK of no NEIGHBOUR", between.least(16, false), 3);
    }

    @Sentence(in = "Promise 28", says = "(and their WORK as it is)")
    static void leastLeavesWork() {
        Grainwright x = Pieces.of("131", "332");
        x.work(0, 5);
        x.work(4, 20);
        Check.due("least(1, true)", x.least(1, true), 3 + 10 + 40);
        Check.due("least(1, false)", x.least(1, false), 3);
        Check.due("least(16, true)", x.least(16, true), x.metal(0));
    }

    @Sentence(in = "Promise 28", says = "or these MARKS as the digits of a number, the smallest CELL first")
    static void leastMarksAsDigits() {
        Grainwright x = Pieces.of("131", "332");
        Check.due("CELLS 0 and 5", x.least(1 | 1 << 5, false), 31);
        x.misfit(1, 3, 9);
        Check.due("CELLS 0, 2, 4, 5", x.least(1 << 0 | 1 << 2 | 1 << 4 | 1 << 5, false), 3333);
        Grainwright apart = Pieces.of("1*2*3", "1*2*3", "1*2*3", "1*2*3");
        Check.due("CELLS 0, 2, 4", apart.least(1 << 0 | 1 << 2 | 1 << 4, false), 123);
        Check.due("CELLS 4, 5, 7, 9", apart.least(1 << 4 | 1 << 5 | 1 << 7 | 1 << 9, false), 3123);
        Grainwright nines = Pieces.of("9*8*", "9*8*");
        Check.due("CELLS 0, 2", nines.least(1 << 0 | 1 << 2, false), 98);
    }

    @Sentence(in = "Promise 28", says = "of several such numbers the smallest one")
    static void leastOfSeveralNumbers() {
        Grainwright x = Pieces.of("12", "12");
        Check.due("1 or 2", x.least(1, false), 1);
        Check.due("all of one MARK", x.least(15, false), 1111);
        Grainwright y = Pieces.of("5*", "*9");
        Check.due("55, 59, 95, or 99", y.least(9, false), 55);
        Grainwright z = Pieces.of("9*3", "***");
        Check.due("33, 39, 93, or 99", z.least(5, false), 33);
    }

    @Sentence(in = "Promise 28", says = "Throws `IllegalArgumentException` if cells is not such a set")
    static void leastThrows() {
        int[] none = {0, -1, Integer.MIN_VALUE, Integer.MAX_VALUE, 31, 1 << 30, 1 << 31, 1 << 30 | 1, 1 << 31 | 1,
            31 << 25, -8, 1 << 24, 1 << 29, 1 << 24 | 1};
        for (int wrong : none) {
            // full() has 24 CELLS, of which 8 to 14 are PARTICLES, and 2, 5 and 23 are HARD.
            Check.illegal("least(" + wrong + ", true)", x -> x.least(wrong, true));
            Check.illegal("least(" + wrong + ", false)", x -> x.least(wrong, false));
        }
        for (int cell = 0; cell < 24; cell++) {
            int set = 1 << cell;
            boolean isNone = cell >= 8 && cell <= 14 || cell == 2 || cell == 5 || cell == 23;
            if (isNone) {
                Check.illegal("least(" + set + ", true)", x -> x.least(set, true));
                Check.illegal("least(" + (set | 1) + ", true)", x -> x.least(set | 1, true));
            } else {
                Check.due("least(" + set + ", true)", Pieces.full().least(set, true) > 0, true);
                Check.refused(IllegalArgumentException.class, "least(" + set + ", true) without a LATTICE",
                        new Grainwright(), x -> x.least(set, true));
            }
        }
        int[] wide = {1 << 30, 1 << 31, 1 << 30 | 1, 1 << 31 | 1, 0, 31, 31 << 25, 1 << 29 | 15};
        for (int wrong : wide) {
            Check.refused(IllegalArgumentException.class, "least(" + wrong + ", true) of 64 CELLS",
                    Pieces.checkerboard(), x -> x.least(wrong, true));
        }
    }

    @Sentence(in = "Promise 28", says = "Throws `IllegalArgumentException` if cells is not such a set")
    static void leastOfCellsThatAreGone() {
        for (int cell = 6; cell < 30; cell++) {
            int set = 1 << cell | 1;
            Grainwright x = Pieces.checkerboard();
            x.lattice(3, 2, 1);
            Check.refused(IllegalArgumentException.class, "least(" + set + ", true) of 6 CELLS, once 64", x,
                    y -> y.least(set, true));
            Check.due("least(33, false) of 6 CELLS, once 64", x.least(33, false), 11);
        }
    }

    @Sentence(in = "Promise 29", says = "Returns the fewest TICKS at each DEGREE, by which a COOLING would make "
            + "so many CELLS HARD, "
            + "or more (1 to 50)")
    static void wouldCoolReturnsTheFewestTicks() {
        Grainwright x = new Grainwright();
        x.lattice(3, 3, 4);
        x.curve(9, 10);
        Check.due("one, 100 a TICK", x.wouldCool(9, 9, 1), 10);
        Check.due("five, 100 a TICK", x.wouldCool(9, 9, 5), 50);
        Check.due("one, 100 and 20 a TICK", x.wouldCool(9, 8, 1), 9);
        Check.due("two, 100 and 20 a TICK", x.wouldCool(9, 8, 2), 17);
        x.curve(7, 1);
        Check.due("one, 1000 a TICK", x.wouldCool(7, 7, 1), 1);
        Check.due("all, 1000 a TICK", x.wouldCool(7, 7, 9), 9);
        for (int degree = 0; degree <= 9; degree++) {
            x.curve(degree, 1);
        }
        Check.due("one or more, 10 a TICK", x.wouldCool(9, 0, 1), 1);
        Check.due("nine or more, 10 a TICK", x.wouldCool(9, 0, 9), 1);
        Grainwright all = new Grainwright();
        all.lattice(8, 8, 9);
        all.curve(9, 1);
        all.curve(8, 1);
        Check.due("64", all.wouldCool(9, 8, 64), 32);
        Check.due("50", all.wouldCool(9, 9, 50), 50);
        fewestTicksByCooling();
    }

    private static void fewestTicksByCooling() {
        for (int kind = 0; kind < 6; kind++) {
            for (int many = 1; many <= 11; many++) {
                Grainwright x = FurnaceSentences.metal(kind);
                x.curve(kind, 7 + kind);
                int want = -1;
                for (int ticks = 50; ticks >= 1; ticks--) {
                    Grainwright other = FurnaceSentences.metal(kind);
                    other.curve(kind, 7 + kind);
                    want = other.cool(9, kind, ticks) >= many ? ticks : want;
                }
                Check.due("wouldCool(9, " + kind + ", " + many + ")", x.wouldCool(9, kind, many), want);
            }
        }
    }

    @Sentence(in = "Promise 29", says = "NONE, if 50 are not enough")
    static void wouldCoolReturnsNone() {
        Grainwright x = new Grainwright();
        x.lattice(3, 3, 4);
        Check.due("20 a TICK, 1000 by 50", x.wouldCool(9, 9, 1), 50);
        x.curve(9, 51);
        Check.due("19 a TICK, 950 by 50", x.wouldCool(9, 9, 1), -1);
        x.curve(9, 1);
        Check.due("more than all", x.wouldCool(9, 9, 10), -1);
        x.pin(4);
        Check.due("all but a PARTICLE", x.wouldCool(9, 9, 8), 8);
        Check.due("more than all but a PARTICLE", x.wouldCool(9, 9, 9), -1);
        Pieces.harden(x, 0, 1);
        Check.due("all but those that are HARD", x.wouldCool(9, 9, 6), 6);
        Check.due("more than those that are not HARD", x.wouldCool(9, 9, 7), -1);
        Check.due("of PARTICLES", Pieces.of("**", "**").wouldCool(9, 0, 1), -1);
        Check.due("64, without a LATTICE", new Grainwright().wouldCool(9, 0, 64), -1);
        Check.due("1, without a LATTICE", new Grainwright().wouldCool(9, 0, 1), -1);
        Grainwright all = new Grainwright();
        all.lattice(8, 8, 9);
        all.curve(9, 1);
        Check.due("51 by 50 TICKS of 1000", all.wouldCool(9, 9, 51), -1);
    }

    @Sentence(in = "Promise 29",
            says = "Throws `IllegalArgumentException` if from is not 0 to 9, to not 0 to from, or many not 1 to 64")
    static void wouldCoolThrows() {
        for (int wrong : Pieces.outside(0, 9)) {
            Check.illegal("wouldCool(" + wrong + ", 0, 1)", x -> x.wouldCool(wrong, 0, 1));
            Check.illegal("wouldCool(9, " + wrong + ", 1)", x -> x.wouldCool(9, wrong, 1));
            Check.illegal("wouldCool(" + wrong + ", " + wrong + ", 1)", x -> x.wouldCool(wrong, wrong, 1));
        }
        for (int degree = 0; degree <= 9; degree++) {
            int from = degree;
            Check.illegal("wouldCool(" + from + ", " + (from + 1) + ", 1)", x -> x.wouldCool(from, from + 1, 1));
            Check.due("wouldCool(" + from + ", " + from + ", 1)", Pieces.of("12", "34").wouldCool(from, from, 1), 50);
        }
        for (int wrong : Pieces.outside(1, 64)) {
            Check.illegal("wouldCool(9, 0, " + wrong + ")", x -> x.wouldCool(9, 0, wrong));
        }
    }

    @Sentence(in = "Promise 30", says = "Returns whether all is SOUND")
    static void isSound() {
        Check.due("without a LATTICE", new Grainwright().isSound(), true);
        Check.due("of PARTICLES", Pieces.of("**", "**").isSound(), true);
        Check.due("of the most GRAINS", Pieces.checkerboard().isSound(), true);
        Check.due("of all that can be told", Pieces.full().isSound(), true);
        Check.due("of all WORK that can be, and all HARD", Pieces.utmost().isSound(), true);
        Check.due("of a comb", Pieces.comb().isSound(), true);
        for (int work = 0; work <= 20; work++) {
            Grainwright worked = Pieces.of("12", "*3");
            worked.work(0, work);
            worked.work(3, 20 - work);
            Check.due("with WORK of " + work, worked.isSound(), true);
        }
        for (int etch = 1; etch <= 9; etch++) {
            Grainwright x = FurnaceSentences.metal(3);
            x.etch(etch);
            for (int heat = 0; heat <= 9; heat++) {
                x.heat(heat, 3);
                x.roll(1);
                x.born(heat + 1);
                Check.due("behind heat(" + heat + ", 3) by ETCH " + etch, x.isSound(), true);
            }
        }
    }

    /** Metals of all kinds, as they are behind a few STEPS. */
    private static List<Grainwright> sound() {
        List<Grainwright> all = new ArrayList<>();
        for (int etch = 1; etch <= 9; etch += 4) {
            for (int kind = 0; kind < 6; kind++) {
                Grainwright x = FurnaceSentences.metal(kind);
                x.etch(etch);
                x.furnace(43 + 36 * kind % 180);
                x.heat(8, 1);
                all.add(x);
            }
        }
        all.addAll(List.of(Pieces.full(), Pieces.checkerboard(), Pieces.of("**", "**"), Pieces.of("1*", "*1")));
        return all;
    }

    @Sentence(in = "Promise 30", says = "SIZES of all GRAINS and PARTICLES together are all CELLS")
    static void sizesAndParticlesAreAllCells() {
        for (Grainwright x : sound()) {
            int sum = x.metal(10);
            int grains = x.metal(1);
            for (int grain = 0; grain < grains; grain++) {
                sum += x.ofGrain(grain, 1);
            }
            Check.due("SIZES and PARTICLES of " + x.picture(), sum, x.metal(13));
        }
    }

    @Sentence(in = "Promise 30", says = "SEEN GRAINS are no more than GRAINS")
    static void seenGrainsAreNoMore() {
        for (Grainwright x : sound()) {
            int seen = x.metal(2);
            Check.due("SEEN GRAINS of " + x.picture(), seen <= x.metal(1), true);
            Check.due("SEEN GRAINS by ETCH 1 of " + x.picture(), x.etch(1), x.metal(1));
        }
    }

    @Sentence(in = "Promise 30", says = "no PARTICLE has WORK, or is HARD; WORK is 0 to 20")
    static void workAndHardnessOfCells() {
        for (Grainwright x : sound()) {
            int cells = x.metal(13);
            for (int cell = 0; cell < cells; cell++) {
                int work = x.ofCell(cell, 1);
                Check.due("WORK of " + cell + " is 0 to 20", work >= 0 && work <= 20, true);
                if (x.ofCell(cell, 0) == 0) {
                    Check.due("WORK of the PARTICLE " + cell, work, 0);
                    Check.due("HARD or not, the PARTICLE " + cell, x.ofCell(cell, 2), 0);
                }
            }
        }
    }

    @Sentence(in = "Promise 30", says = "ENERGY is 0 or more; CUTS are all pairs that are SEEN")
    static void energyAndCuts() {
        for (Grainwright x : sound()) {
            Check.due("ENERGY of " + x.picture(), x.metal(0) >= 0, true);
            int cuts = 0;
            int cells = x.metal(13);
            int wide = x.picture().indexOf('/');
            for (int line = 0; line < wide + cells / wide; line++) {
                cuts += x.line(line, true);
            }
            Check.due("CUTS of " + x.picture(), x.metal(9), cuts);
            // By ETCH 1 all pairs of different MARKS are SEEN, and those with one PARTICLE.
            x.etch(1);
            int pairs = 0;
            for (int one = 1; one <= 9; one++) {
                for (int other = one + 1; other <= 9; other++) {
                    pairs += x.wall(one, other);
                }
            }
            for (int cell = 0; cell < cells; cell++) {
                pairs += x.ofCell(cell, 0) == 0 ? x.ofCell(cell, 3) : 0;
            }
            Check.due("CUTS by ETCH 1 of " + x.picture(), x.metal(9), pairs);
        }
    }

    @Sentence(in = "Promise 31", says = "metal() of 0 to 15; CELL by CELL ofCell() of 0 to 5; GRAIN by GRAIN "
            + "ofGrain() of 0 to 6; "
            + "MARK by MARK TEXTURE; LINE by LINE its CUTS; sided() of 0 to 6; "
            + "the number of the ROW that would be DRAWN next; 1 if isSound(), otherwise 0")
    static void digestOfAllNumbers() {
        for (int kind = 0; kind < 6; kind++) {
            int each = kind;
            dueOfDigest("digest() of " + kind, () -> FurnaceSentences.metal(each), 321);
        }
        dueOfDigest("digest() of the most GRAINS", Pieces::checkerboard, 999);
        dueOfDigest("digest() of PARTICLES", () -> Pieces.of("**", "**"), 0);
        // Behind lattice(2, 2, 9) the next of the ROW is 281.
        Grainwright next = new Grainwright();
        next.lattice(2, 2, 9);
        long digest = next.digest();
        next.seed(280);
        Check.due("digest() by the ROW", digest - next.digest(), 31);
    }

    private static void dueOfDigest(String call, Supplier<Grainwright> making, int seed) {
        Grainwright x = making.get();
        x.seed(seed);
        Check.due(call, x.digest(), (told(making) * 31 + seed) * 31 + 1);
    }

    /** The checksum as far as it can be put together from what other methods tell; no object is asked too often. */
    private static long told(Supplier<Grainwright> making) {
        Grainwright x = making.get();
        long d = 58288;
        for (int what = 0; what <= 15; what++) {
            d = d * 31 + x.metal(what);
        }
        int cells = x.metal(13);
        for (int cell = 0; cell < cells; cell++) {
            Grainwright each = making.get();
            for (int what = 0; what <= 5; what++) {
                d = d * 31 + each.ofCell(cell, what);
            }
        }
        int grains = x.metal(1);
        for (int grain = 0; grain < grains; grain++) {
            Grainwright each = making.get();
            for (int what = 0; what <= 6; what++) {
                d = d * 31 + each.ofGrain(grain, what);
            }
        }
        for (int mark = 1; mark <= 9; mark++) {
            d = d * 31 + x.texture(mark);
        }
        int wide = x.picture().indexOf('/');
        for (int line = 0; line < wide + cells / wide; line++) {
            d = d * 31 + x.line(line, true);
        }
        for (int many = 0; many <= 6; many++) {
            d = d * 31 + x.sided(many);
        }
        return d;
    }

    @Sentence(in = "Promise 31", says = "A number d starts with 58288; for each of the following numbers v, d "
            + "becomes d * 31 + v, "
            + "which wraps around as a 64-bit integer")
    static void digestWrapsAround() {
        BigInteger want = BigInteger.valueOf(58288);
        for (int k = 0; k < 32; k++) {
            want = want.multiply(BigInteger.valueOf(31));
        }
        want = want.multiply(BigInteger.valueOf(31)).add(BigInteger.valueOf(7));
        want = want.multiply(BigInteger.valueOf(31)).add(BigInteger.ONE);
        Check.due("it is beyond 64 bits", want.bitLength() > 64, true);
        Check.due("digest() without a LATTICE", new Grainwright().digest(), want.longValue());
    }
}
