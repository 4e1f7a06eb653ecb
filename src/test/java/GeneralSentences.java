import java.util.List;
import java.util.function.Function;

/** The sentences ahead of part 1: calls, numbers, exceptions, and the ROW. */
final class GeneralSentences {
    private static final String IN = "Description";

    private GeneralSentences() {
    }

    @Sentence(in = "What it is", says = "An object is used for at most 512 calls after it has been made")
    static void the512thCallIsAnswered() {
        Grainwright x = new Grainwright();
        Model model = new Model();
        x.lattice(8, 8, 9);
        model.lattice(8, 8, 9);
        for (int call = 2; call <= 510; call++) {
            int heat = call % 10;
            Check.due("call " + call, call % 3 == 0 ? x.roll(1) : x.heat(heat, 12),
                    call % 3 == 0 ? model.roll(1) : model.heat(heat, 12));
        }
        Check.due("the 511th call, metal(14)", x.metal(14), model.metal(14));
        Check.due("the 512th call, digest()", x.digest(), model.digest());
    }

    @Sentence(in = "What it is", says = "An object is used for at most 512 calls after it has been made")
    static void each512thCallIsAnsweredAsTheFirst() {
        List<Function<Grainwright, Object>> askings = List.of(x -> x.ofCell(7, 5), x -> x.ofGrain(0, 2),
                x -> x.metal(8), x -> x.change(7, 1), x -> x.texture(8), x -> x.wall(8, 3), x -> x.line(1, true),
                x -> x.sided(1), x -> x.picture(), x -> x.etched(), x -> x.wouldHeat(9, 4, 14), x -> x.best(300, false),
                x -> x.least(7, false), x -> x.wouldCool(9, 0, 3), x -> x.isSound(), x -> x.digest(), x -> x.seed(5),
                x -> x.mark(2, 8), x -> x.work(3, 0), x -> x.misfit(1, 2, 1), x -> x.etch(1), x -> x.born(1),
                x -> x.curve(9, 50), x -> x.cool(0, 0, 1), x -> x.soften(), x -> x.furnace(0));
        for (int which = 0; which < askings.size(); which++) {
            Grainwright x = new Grainwright();
            x.lattice(4, 3, 9);
            Object first = askings.get(which).apply(x);
            for (int call = 3; call <= 512; call++) {
                Check.due("call " + call + " of asking " + which, askings.get(which).apply(x), first);
            }
        }
    }

    @Sentence(in = IN, says = "what is divided is rounded down")
    static void whatIsDividedIsRoundedDown() {
        Grainwright x = Pieces.of("112", "1*3", "333");
        x.work(0, 5);
        Check.due("800 / 3 by AREA", x.metal(3), 266);
        Check.due("1800 / (7 + 6) by LINES", x.metal(4), 138);
        Check.due("20 + 700 / 9 + 4 + 5 / 2 of STRENGTH", x.metal(8), 20 + 77 + 4 + 2);
        Check.due("3000 / 9 of TEXTURE", x.texture(1), 333);
        Check.due("4000 / 9 of TEXTURE", x.texture(3), 444);
        x.curve(9, 3);
        Check.due("3 TICKS of 1000 / 3", x.cool(9, 9, 3), 0);
    }

    @Sentence(in = IN, says = "NONE is -1.")
    static void noneIsOneBelow0() {
        Grainwright x = Pieces.of("1*", "11");
        Check.due("GRAIN of a PARTICLE", x.ofCell(1, 4), -1);
        Check.due("TICKS for more CELLS than there are", x.wouldCool(9, 0, 4), -1);
    }

    @Sentence(in = IN, says = "A set is the sum of 2^k for the numbers k in it.")
    static void aSetIsASumOfPowers() {
        Grainwright first = Pieces.of("7*", "**");
        Check.due("2^0", first.least(1, false), 7);
        Check.refused(IllegalArgumentException.class, "2^1", first, x -> x.least(2, false));
        Grainwright last = Pieces.of("**", "67");
        Check.due("2^3", last.least(8, false), 6);
        Check.due("2^2 + 2^3", last.least(4 + 8, false), 66);
        Check.refused(IllegalArgumentException.class, "2^0 of a PARTICLE", last, x -> x.least(1, false));
    }

    @Sentence(in = IN, says = "X by X is by rising numbers")
    static void cellByCellIsByRisingNumbers() {
        Grainwright x = new Grainwright();
        x.lattice(3, 2, 9);
        // DRAWN: 7, 142, 2437, 497, 281, 4800: modulo 9 these are 7, 7, 7, 2, 2, 3.
        Check.due("lattice(3, 2, 9) leaves", x.picture(), "888/334");
    }

    @Sentence(in = IN, says = "where one of several is taken and nothing else is said, it is that with the "
            + "smallest number")
    static void ofSeveralItIsTheSmallestNumber() {
        Grainwright cooled = Pieces.of("11", "11");
        cooled.curve(0, 1);
        cooled.cool(0, 0, 1);
        Check.due("HARD of equal WORK", cooled.etched(), "#1/11");
        Grainwright melted = Pieces.of("**", "11");
        melted.heat(9, 1);
        Check.due("gone of two PARTICLES", melted.picture(), "1*/11");
    }

    @Sentence(in = IN, says = "A method that throws an exception changes nothing.")
    static void whatThrowsChangesNothing() {
        Check.illegal("lattice(8, 8, 10)", x -> x.lattice(8, 8, 10));
        Check.illegal("seed(1000)", x -> x.seed(1000));
        Check.illegalOfCell("mark(8, 10)", x -> x.mark(Pieces.PARTICLE_OF_FULL, 10));
        Check.refused(IllegalStateException.class, "pin(8)", Pieces.full(), x -> x.pin(Pieces.PARTICLE_OF_FULL));
        Check.refused(IllegalStateException.class, "work(8, 1)", Pieces.full(),
                x -> x.work(Pieces.PARTICLE_OF_FULL, 1));
        Check.illegal("misfit(1, 2, 10)", x -> x.misfit(1, 2, 10));
        Check.illegal("etch(10)", x -> x.etch(10));
        Check.illegal("heat(9, 13)", x -> x.heat(9, 13));
        Check.illegal("roll(10)", x -> x.roll(10));
        Check.illegal("born(0)", x -> x.born(0));
        Check.illegal("curve(9, 100)", x -> x.curve(9, 100));
        Check.illegal("cool(9, 0, 51)", x -> x.cool(9, 0, 51));
        Check.illegal("furnace(150), digits 4, 1, 0", x -> x.furnace(150));
    }

    @Sentence(in = IN, says = "If several exceptions apply, the one that is named first is thrown.")
    static void theOneNamedFirstIsThrown() {
        for (int cell : Pieces.outside(0, Pieces.CELLS_OF_FULL - 1)) {
            Check.outside("mark(" + cell + ", 0)", x -> x.mark(cell, 0));
            Check.outside("work(" + cell + ", 21)", x -> x.work(cell, 21));
            Check.outside("ofCell(" + cell + ", 6)", x -> x.ofCell(cell, 6));
            Check.outside("ofGrain(" + cell + ", 7)", x -> x.ofGrain(cell, 7));
        }
        Check.outsideWithoutLattice("mark(0, 0)", x -> x.mark(0, 0));
        Check.outsideWithoutLattice("work(0, 21)", x -> x.work(0, 21));
        Check.outsideWithoutLattice("ofCell(0, 6)", x -> x.ofCell(0, 6));
        Check.outsideWithoutLattice("ofGrain(0, 7)", x -> x.ofGrain(0, 7));
        Check.illegalOfCell("work(8, 21) of a PARTICLE", x -> x.work(Pieces.PARTICLE_OF_FULL, 21));
        Check.illegalOfCell("work(8, -1) of a PARTICLE", x -> x.work(Pieces.PARTICLE_OF_FULL, -1));
    }

    @Sentence(in = IN, says = "the first one (that is DRAWN first) is 7")
    static void theFirstOneIs7() {
        Check.due("the next of the ROW at first", Pieces.nextOfRow(new Grainwright()), 7);
        Grainwright x = new Grainwright();
        x.lattice(2, 2, 8);
        // 7, 142, 2437, 497: modulo 8 these are 7, 6, 5, 1.
        Check.due("lattice(2, 2, 8) leaves", x.picture(), "87/62");
    }

    @Sentence(in = IN, says = "each later one (17 * the one ahead + 23) modulo 8191")
    static void theRowWrapsAt8191() {
        Grainwright x = new Grainwright();
        x.lattice(2, 2, 9);
        Check.due("behind 497, 17 * 497 + 23 - 8191", Pieces.nextOfRow(x), 281);
        Grainwright low = new Grainwright();
        low.seed(896);
        low.lattice(3, 2, 9);
        // 896, 7064, 5437, 2351, 7226, 0: modulo 9 these are 5, 8, 1, 2, 8, 0.
        Check.due("896 and five more", low.picture(), "692/391");
        Check.due("behind 0", Pieces.nextOfRow(low), 23);
        Grainwright high = new Grainwright();
        high.seed(623);
        high.lattice(6, 4, 9);
        Check.due("the 24th from 623 on, 8190", high.ofCell(23, 0), 1 + 8190 % 9);
        Check.due("behind 8190", Pieces.nextOfRow(high), 6);
    }

    @Sentence(in = IN, says = "It goes on from one method to the next.")
    static void theRowGoesOn() {
        Grainwright x = new Grainwright();
        x.lattice(2, 2, 1);
        x.heat(5, 1);
        // Behind 4 and 8 numbers more come 7479, 4301, 7612, 6562: modulo 9 these are 0, 8, 7, 1.
        x.lattice(2, 2, 9);
        Check.due("lattice, heat, lattice leave", x.picture(), "19/82");
        // Then 5094, which is 0 modulo 9, and 4711.
        x.work(1, 20);
        x.born(20);
        Check.due("born behind these leaves", x.picture(), "11/82");
        Check.due("behind born", Pieces.nextOfRow(x), 4711);
    }

    @Sentence(in = IN, says = "(SEED puts another number in the place of the first one, and begins it anew.)")
    static void seedBeginsTheRowAnew() {
        Grainwright x = new Grainwright();
        x.lattice(3, 3, 9);
        String first = x.picture();
        x.lattice(3, 3, 9);
        Check.due("two parts of the ROW are the same", first.equals(x.picture()), false);
        x.seed(7);
        x.lattice(3, 3, 9);
        Check.due("from 7 on again", x.picture(), first);
        x.seed(8);
        x.lattice(2, 2, 9);
        // 8, 159, 2726, 5410: modulo 9 these are 8, 6, 8, 1.
        Check.due("from 8 on", x.picture(), "97/92");
    }
}
