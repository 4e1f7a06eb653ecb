/** The sentences of part 3: cooling. */
final class CoolingSentences {
    private static final String IN = "3. Cooling";

    private CoolingSentences() {
    }

    @Sentence(in = IN, says = "DEGREES are 0 to 9.")
    static void degreesAreFrom0To9() {
        Grainwright x = Pieces.of("12", "34");
        for (int degree = 0; degree <= 9; degree++) {
            x.curve(degree, 1);
            Check.due("cool(" + degree + ", " + degree + ", 1)", x.cool(degree, degree, 1), 1);
            x.soften();
        }
        for (int wrong : Pieces.outside(0, 9)) {
            Check.illegal("curve(" + wrong + ", 1)", y -> y.curve(wrong, 1));
            Check.illegal("cool(" + wrong + ", 0, 1)", y -> y.cool(wrong, 0, 1));
            Check.illegal("wouldCool(" + wrong + ", 0, 1)", y -> y.wouldCool(wrong, 0, 1));
        }
    }

    @Sentence(in = IN, says = "A CURVE: for each of them a TIME (1 to 99; 50 at first).")
    static void timesAreFrom1To99() {
        Grainwright x = Pieces.of("12", "34");
        for (int degree = 0; degree <= 9; degree++) {
            Check.due("49 TICKS at " + degree + " at first", x.cool(degree, degree, 49), 0);
            Check.due("50 TICKS at " + degree + " at first", x.cool(degree, degree, 50), 1);
            x.soften();
            Check.due("curve(" + degree + ", 99) at first", x.curve(degree, 99), 50);
            Check.due("curve(" + degree + ", 1)", x.curve(degree, 1), 99);
            Check.due("curve(" + degree + ", 50)", x.curve(degree, 50), 1);
        }
    }

    @Sentence(in = IN, says = "A COOLING goes from one of them down to another one, one by one, each for so "
            + "many TICKS.")
    static void oneDegreeAfterTheOther() {
        Grainwright x = Pieces.of("12", "34");
        for (int degree = 0; degree <= 9; degree++) {
            x.curve(degree, degree == 4 ? 1 : 99);
        }
        int[][] cooled = {{9, 5, 1, 0}, {9, 4, 1, 1}, {4, 4, 1, 1}, {3, 0, 1, 0}, {4, 0, 2, 2}, {4, 4, 3, 3},
            {9, 0, 3, 3}};
        for (int[] c : cooled) {
            Check.due("cool(" + c[0] + ", " + c[1] + ", " + c[2] + ")", x.cool(c[0], c[1], c[2]), c[3]);
            x.soften();
        }
        Grainwright each = Pieces.of("12", "34");
        for (int degree = 0; degree <= 9; degree++) {
            each.curve(degree, 10);
        }
        Check.due("ten DEGREES of 100", each.cool(9, 0, 1), 1);
        Check.due("nine DEGREES of 100", each.cool(9, 1, 1), 0);
    }

    @Sentence(in = IN, says = "Each TICK at a DEGREE adds 1000 / TIME of it (rounded down) to the SUM.")
    static void eachTickIsRoundedDown() {
        Grainwright x = Pieces.of("12", "34");
        // TIME, TICKS that do not come to 1000, though without rounding some would.
        int[][] below = {{3, 3}, {6, 6}, {7, 7}, {9, 9}, {11, 11}, {13, 13}, {51, 50}, {99, 50}, {1, 0}, {50, 49}};
        for (int[] b : below) {
            x.curve(5, b[0]);
            int ticks = Math.min(50, b[1] + 1);
            if (b[1] > 0) {
                Check.due(b[1] + " TICKS of 1000 / " + b[0], x.cool(5, 5, b[1]), 0);
            }
            Check.due(ticks + " TICKS of 1000 / " + b[0], x.cool(5, 5, ticks), b[0] > 50 ? 0 : 1);
            x.soften();
        }
        x.curve(5, 99);
        x.curve(4, 99);
        Check.due("98 TICKS of 10", x.cool(5, 4, 49), 0);
        Check.due("100 TICKS of 10", x.cool(5, 4, 50), 1);
    }

    @Sentence(in = IN, says = "As the SUM comes to 1000 or more, one CELL more is HARD")
    static void hardAsTheSumComesTo1000() {
        Grainwright x = Pieces.of("12", "34");
        x.curve(5, 50);
        x.curve(4, 8);
        Check.due("980", x.cool(5, 5, 49), 0);
        Check.due("HARD CELLS of 980", x.metal(11), 0);
        Check.due("1000", x.cool(5, 5, 50), 1);
        Check.due("HARD CELLS of 1000", x.metal(11), 1);
        Check.due("8 TICKS of 125", x.cool(4, 4, 8), 1);
        Check.due("15 TICKS of 125", x.cool(4, 4, 15), 1);
        Check.due("HARD CELLS of three", x.metal(11), 3);
    }

    @Sentence(in = IN, says = "of those that are no PARTICLES and not HARD that with the greatest WORK")
    static void theGreatestWorkIsHardFirst() {
        Grainwright x = Pieces.of("*23", "*45");
        x.work(1, 4);
        x.work(4, 7);
        x.work(5, 4);
        x.curve(9, 1);
        String[] want = {"*23/*#5", "*#3/*#5", "*#3/*##", "*##/*##"};
        for (String etched : want) {
            Check.due("cool(9, 9, 1)", x.cool(9, 9, 1), 1);
            Check.due("etched()", x.etched(), etched);
        }
        Grainwright y = Pieces.of("11", "11");
        y.work(3, 20);
        y.work(2, 19);
        y.curve(9, 1);
        y.cool(9, 9, 2);
        Check.due("of 19 and 20", y.etched(), "11/##");
    }

    @Sentence(in = IN, says = "and the SUM is 1000 less (this again, as long as it is 1000 or more)")
    static void theRestStaysInTheSum() {
        Grainwright x = new Grainwright();
        x.lattice(8, 8, 3);
        x.curve(9, 3);
        int[] ticks = {4, 6, 7, 10, 30, 31, 50};
        int[] want = {1, 1, 2, 3, 9, 10, 16};
        for (int k = 0; k < ticks.length; k++) {
            Check.due(ticks[k] + " TICKS of 333", x.cool(9, 9, ticks[k]), want[k]);
            x.soften();
        }
        x.curve(9, 1);
        Check.due("50 TICKS of 1000", x.cool(9, 9, 50), 50);
        x.soften();
        x.curve(9, 2);
        x.curve(8, 3);
        Check.due("the rest of one DEGREE goes to the next, 500 and 333", x.cool(9, 8, 1), 0);
        Check.due("3 * 500 and 3 * 333", x.cool(9, 8, 3), 2);
    }

    @Sentence(in = IN, says = "(If none is left, none becomes HARD by that.)")
    static void noneIsLeft() {
        Grainwright x = Pieces.of("1*", "*2");
        x.curve(9, 1);
        Check.due("of two that are left", x.cool(9, 0, 50), 2);
        Check.due("of none that is left", x.cool(9, 0, 50), 0);
        Check.due("PARTICLES are not HARD", x.etched(), "#*/*#");
        Check.due("of PARTICLES alone", Pieces.of("**", "**").cool(9, 0, 50), 0);
        Check.due("without a LATTICE", new Grainwright().cool(9, 0, 50), 0);
    }

    @Sentence(in = IN, says = "The SUM is 0 as a COOLING begins.")
    static void theSumBeginsAt0() {
        Grainwright x = Pieces.of("12", "34");
        x.curve(9, 3);
        for (int time = 0; time < 4; time++) {
            Check.due("999", x.cool(9, 9, 3), 0);
        }
        Check.due("1998", x.cool(9, 9, 6), 1);
        Check.due("333 behind a rest of 998", x.cool(9, 9, 1), 0);
    }

    @Sentence(in = IN, says = "A HARD CELL that is DRAWN in a SWEEP takes nothing (no third number is DRAWN then")
    static void hardCellsTakeNothing() {
        Grainwright x = Pieces.of("12", "12");
        Pieces.harden(x, 3);
        // DRAWN: CELL 1 by 0, CHANGE 0; the last try, CELL 3 by 1, takes nothing, and 5882 is not DRAWN.
        Check.due("heat(0, 1)", x.heat(0, 1), 1);
        Check.due("it leaves", x.picture(), "11/12");
        Check.due("DRAWN", x.metal(14), 4 + 9);
        Check.due("the next of the ROW", Pieces.nextOfRow(x), 5882);
        Grainwright all = Pieces.of("12", "34");
        Pieces.hardenAll(all);
        Check.due("heat(9, 12) of HARD ones alone", all.heat(9, 12), 0);
        Check.due("they stay", all.picture(), "12/34");
        Check.due("DRAWN", all.metal(14), 4 + 12 * 8);
    }

    @Sentence(in = IN, says = "its MARK can be taken by others")
    static void marksOfHardOnesAreTaken() {
        Grainwright x = Pieces.freeLastCell(1);
        x.seed(19);
        Check.due("heat(0, 1) beside HARD ones", x.heat(0, 1), 1);
        Check.due("it leaves", x.picture(), "42/32");
        Check.due("HARD ones stay HARD, the other one is not", x.etched(), "##/#2");
    }

    @Sentence(in = IN, says = "and is left out as one ROLLS")
    static void hardOnesAreNotRolled() {
        Grainwright x = Pieces.of("12", "34");
        x.work(2, 15);
        x.work(3, 8);
        Pieces.harden(x, 2, 3);
        Check.due("roll(1)", x.roll(1), 2 + 3 + 15 + 8);
        Check.due("it leaves", x.picture(), "12/34");
        x.soften();
        Check.due("roll(1) of soft ones", x.roll(1), 4 + 6 + 16 + 10);
        Check.due("it leaves", x.picture(), "12/44");
    }

    @Sentence(in = IN, says = "or is BORN")
    static void hardOnesAreNotBorn() {
        Grainwright x = Pieces.of("12", "34");
        x.work(0, 20);
        x.work(3, 20);
        Pieces.harden(x, 0);
        Check.due("born(20)", x.born(20), 1);
        Check.due("WORK of the HARD one", x.ofCell(0, 1), 20);
        Check.due("DRAWN", x.metal(14), 4 + 1);
        x.soften();
        Check.due("born(20) of soft ones", x.born(20), 1);
        Check.due("WORK", x.ofCell(0, 1), 0);
    }

    @Sentence(in = IN, says = "to SOFTEN takes that from all")
    static void allAreSoftened() {
        Grainwright x = new Grainwright();
        x.lattice(8, 8, 9);
        x.curve(9, 1);
        x.curve(8, 1);
        Check.due("cool(9, 8, 50)", x.cool(9, 8, 50), 64);
        Check.due("soften()", x.soften(), 64);
        for (int cell = 0; cell < 64; cell++) {
            Check.due("HARD or not, CELL " + cell, x.ofCell(cell, 2), 0);
        }
    }
}
