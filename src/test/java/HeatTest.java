import static java.lang.Integer.MAX_VALUE;
import static java.lang.Integer.MIN_VALUE;

/** Promises 9 to 15: heat, rolls, cooling, and the furnace. */
public final class HeatTest {
    private HeatTest() {
    }

    public static void main(String[] args) {
        sweep();
        hardCellsTakeNothing();
        particlesTakeAndGiveNothing();
        heatAllowsMore();
        workGoesWithTheMark();
        melting();
        easing();
        heatRefuses();
        roll();
        born();
        curve();
        cool();
        soften();
        furnace();
        Check.end("HeatTest");
    }

    private static void sweep() {
        Grainwright x = Check.of("12", "12");
        // DRAWN: 7, 142: cell 3 by 1, the same MARK. 2437, 497, 281: cell 1 by 0, CHANGE 0.
        // 4800, 7904: cell 0 by 1, the same by now. 3335, 7572, 5882: cell 3 by 1, CHANGE -2.
        Check.due("9 heat", x.heat(0, 1), 2);
        Check.due("9 picture", x.picture(), "11/11");
        Check.due("9 drawn", x.metal(14), 14);
        Check.due("9 all the same", x.heat(9, 12), 0);
        Check.due("9 drawn of 12 sweeps", x.metal(14), 14 + 96);
    }

    private static void hardCellsTakeNothing() {
        Grainwright x = Check.of("12", "12");
        x.work(3, 5);
        x.curve(9, 1);
        x.cool(9, 9, 1);
        // As in sweep(), but the last try is of the HARD cell 3, and no third number is DRAWN.
        Check.due("9 hard", x.heat(0, 1), 1);
        Check.due("9 hard picture", x.picture(), "11/12");
        Check.due("9 hard drawn", x.metal(14), 13);
    }

    private static void particlesTakeAndGiveNothing() {
        Grainwright x = Check.of("*2", "12");
        // DRAWN: cell 3 by 1; cell 1 by 0, a PARTICLE; 281, 4800: cell 1 by 3; 7904, 3335: cell 0, a PARTICLE.
        Check.due("9 particle", x.heat(7, 1), 0);
        Check.due("9 particle picture", x.picture(), "*2/12");
        Check.due("9 particle drawn", x.metal(14), 12);
    }

    /** With the seed 19 only the first try is of cell 3, by the one above; the third number is 5905. */
    private static Grainwright freeLastCell(int misfit) {
        Grainwright x = Check.of("42", "31");
        for (int cell = 0; cell < 3; cell++) {
            x.work(cell, 1);
        }
        x.curve(9, 1);
        x.cool(9, 9, 3);
        for (int cell = 0; cell < 3; cell++) {
            x.work(cell, 0);
        }
        x.misfit(2, 3, misfit);
        x.seed(19);
        return x;
    }

    private static void heatAllowsMore() {
        Check.due("9 change of 4", freeLastCell(6).change(3, 0), 4);
        Check.due("9 40 of 40", freeLastCell(6).heat(8, 1), 1);
        Check.due("9 40 of 35", freeLastCell(6).heat(7, 1), 0);
        Check.due("9 20 of 20", freeLastCell(4).heat(4, 1), 1);
        Check.due("9 20 of 15", freeLastCell(4).heat(3, 1), 0);
        Check.due("9 10 of 0", freeLastCell(3).heat(0, 1), 0);
        Check.due("9 change of 0", freeLastCell(2).heat(0, 1), 1);
        Check.due("9 change of -1", freeLastCell(1).heat(0, 1), 1);
        Grainwright x = freeLastCell(6);
        x.heat(8, 1);
        Check.due("9 picture", x.picture(), "42/32");
        Check.due("9 drawn", x.metal(14), 4 + 9);
    }

    private static void workGoesWithTheMark() {
        Grainwright x = freeLastCell(6);
        x.work(3, 2);
        Check.due("9 change less twice the work", x.change(3, 0), 0);
        Check.due("9 for the work", x.heat(0, 1), 1);
        Check.due("9 the work is gone", x.ofCell(3, 1), 0);
        Grainwright y = freeLastCell(6);
        y.work(3, 2);
        y.work(1, 1);
        Check.due("9 work of the neighbour", y.change(3, 0), 4);
        Check.due("9 not for the work", y.heat(0, 1), 0);
        y.seed(19);
        Check.due("9 by heat", y.heat(9, 1), 1);
        Check.due("9 the work stays", y.ofCell(3, 1), 2);
    }

    private static void melting() {
        Grainwright x = Check.of("***", "**4", "*5*");
        x.work(5, 9);
        x.heat(7, 1);
        Check.due("9 none below 8", x.metal(10), 7);
        x.heat(8, 1);
        Check.due("9 the first with a neighbour that is none", x.picture(), "**4/**4/*5*");
        Check.due("9 its work", x.ofCell(2, 1), 0);
        x.heat(9, 1);
        Check.due("9 one a sweep", x.metal(10), 5);
        Check.due("9 the next one", x.ofCell(1, 0), 4);
        x.heat(9, 3);
        Check.due("9 three more", x.metal(10), 2);
        Grainwright y = Check.of("**", "**");
        Check.due("9 particles alone", y.heat(9, 2), 0);
        Check.due("9 they stay", y.picture(), "**/**");
        Grainwright z = Check.of("8*", "8*");
        Check.due("9 melting is no try", z.heat(8, 2), 0);
        Check.due("9 melted", z.picture(), "88/88");
        Grainwright right = Check.of("3*7", "***");
        right.heat(8, 1);
        Check.due("9 the one on the right ahead of the left one", right.picture(), "377/***");
        Grainwright above = Check.of("77", "*3");
        above.misfit(3, 7, 9);
        above.work(0, 9);
        above.work(1, 9);
        above.work(3, 9);
        above.curve(9, 1);
        above.cool(9, 9, 3);
        above.heat(9, 1);
        Check.due("9 the mark of the first neighbour", above.picture(), "77/73");
    }

    private static void easing() {
        for (int heat = 0; heat <= 9; heat++) {
            Grainwright x = Check.of("11", "11");
            x.work(0, 5);
            x.work(1, 1);
            x.curve(9, 1);
            x.cool(9, 9, 1);
            x.heat(heat, 2);
            int want = heat >= 1 && heat <= 4 ? 3 : 6;
            Check.due("9 work behind heat " + heat, x.metal(12), want);
            Check.due("9 a hard one's work behind heat " + heat, x.ofCell(0, 1), want == 3 ? 3 : 5);
        }
    }

    private static void heatRefuses() {
        Grainwright none = new Grainwright();
        Check.due("9 no lattice", none.heat(9, 12), 0);
        Check.due("9 nothing drawn", none.metal(14), 0);
        Grainwright x = Check.of("12", "21");
        for (int wrong : new int[] {-1, 10, MIN_VALUE, MAX_VALUE}) {
            Check.illegal("9 heat " + wrong, () -> x.heat(wrong, 1));
        }
        for (int wrong : new int[] {0, 13, -1, MIN_VALUE, MAX_VALUE}) {
            Check.illegal("9 sweeps " + wrong, () -> x.heat(1, wrong));
        }
        Check.due("9 a wrong one draws nothing", x.metal(14), 4);
    }

    private static void roll() {
        Grainwright x = Check.of("123", "9*4");
        // A pass gives 2, 3, 1, 1, nothing, 2.
        Check.due("10 roll", x.roll(1), 9);
        Check.due("10 roll twice more", x.roll(2), 27);
        x.work(0, 8);
        x.work(1, 8);
        x.work(3, 10);
        Check.due("10 work of 10 stays", x.roll(1), 10 + 11 + 4 + 11 + 8);
        Check.due("10 the marks above 10 turn", x.picture(), "133/1*4");
        x.work(1, 20);
        x.work(3, 19);
        x.roll(1);
        Check.due("10 20 at most", x.ofCell(1, 1), 20);
        Check.due("10 from 19", x.ofCell(3, 1), 20);
        Check.due("10 turned again", x.picture(), "243/2*4");
        hardOnesAreNotRolled();
        Check.due("10 no lattice", new Grainwright().roll(9), 0);
        for (int wrong : new int[] {0, 10, -1, MIN_VALUE, MAX_VALUE}) {
            Check.illegal("10 passes " + wrong, () -> x.roll(wrong));
        }
    }

    private static void hardOnesAreNotRolled() {
        Grainwright x = Check.of("12", "34");
        x.work(2, 15);
        x.curve(9, 1);
        x.cool(9, 9, 1);
        Check.due("10 hard", x.roll(1), 2 + 3 + 15 + 2);
        Check.due("10 hard picture", x.picture(), "12/34");
        x.soften();
        x.roll(1);
        Check.due("10 softened", x.picture(), "12/44");
    }

    private static void born() {
        Grainwright x = Check.of("112", "1*3", "114");
        for (int cell : new int[] {0, 1, 2, 3, 5, 6, 7, 8}) {
            x.work(cell, 6);
        }
        x.work(5, 5);
        // 0, 3, 6 have one other at most; 1 (2 and *) gets 1 + 7 % 9; 2 (8 and 3) 1 + 142 % 9;
        // 5 has too little WORK; 7 (* and 4) gets 1 + 2437 % 9; 8 (3 and 8) 1 + 497 % 9.
        Check.due("11 born", x.born(6), 4);
        Check.due("11 picture", x.picture(), "188/1*3/183");
        Check.due("11 work", x.metal(12), 6 + 6 + 5 + 6);
        Check.due("11 drawn", x.metal(14), 9 + 4);
        // Now 0 (8 and 1) has one other, 3 one (the PARTICLE), 5 has two.
        Check.due("11 a lower bar", x.born(5), 1);
        Grainwright y = Check.of("12", "34");
        y.work(0, 20);
        y.curve(9, 1);
        y.cool(9, 9, 1);
        Check.due("11 hard", y.born(20), 0);
        y.soften();
        Check.due("11 softened", y.born(20), 1);
        Check.due("11 no work", y.born(1), 0);
        Check.due("11 no lattice", new Grainwright().born(1), 0);
        for (int wrong : new int[] {0, 21, -1, MIN_VALUE, MAX_VALUE}) {
            Check.illegal("11 bar " + wrong, () -> x.born(wrong));
        }
    }

    private static void curve() {
        Grainwright x = new Grainwright();
        for (int degree = 0; degree <= 9; degree++) {
            Check.due("12 at first", x.curve(degree, 90 + degree), 50);
        }
        for (int degree = 0; degree <= 9; degree++) {
            Check.due("12 then", x.curve(degree, 1), 90 + degree);
        }
        for (int wrong : new int[] {-1, 10, MIN_VALUE, MAX_VALUE}) {
            Check.illegal("12 degree " + wrong, () -> x.curve(wrong, 1));
        }
        for (int wrong : new int[] {0, 100, -1, MIN_VALUE, MAX_VALUE}) {
            Check.illegal("12 time " + wrong, () -> x.curve(1, wrong));
        }
    }

    private static void cool() {
        Grainwright x = Check.of("123", "*45");
        x.work(1, 4);
        x.work(4, 7);
        x.work(5, 4);
        x.curve(9, 3);
        Check.due("13 999", x.cool(9, 9, 3), 0);
        Check.due("13 the sum begins at 0", x.cool(9, 9, 3), 0);
        Check.due("13 1332", x.cool(9, 9, 4), 1);
        Check.due("13 the greatest work", x.etched(), "123/*#5");
        x.curve(8, 5);
        // 333 * 4 is 1332, and 200 * 4 more is 2132.
        Check.due("13 two degrees", x.cool(9, 8, 4), 2);
        Check.due("13 the smaller number first", x.etched(), "1#3/*##");
        x.curve(7, 1);
        Check.due("13 no work, too", x.cool(7, 7, 1), 1);
        Check.due("13 the smallest number", x.etched(), "##3/*##");
        Check.due("13 none is left", x.cool(9, 0, 50), 1);
        Check.due("13 but particles", x.etched(), "###/*##");
        Check.due("13 none at all", x.cool(9, 0, 50), 0);
        Grainwright slow = Check.of("11", "11");
        slow.curve(0, 99);
        Check.due("13 rounded down", slow.cool(0, 0, 50), 0);
        slow.curve(0, 50);
        Check.due("13 50 times 20", slow.cool(0, 0, 50), 1);
        Check.due("13 no lattice", new Grainwright().cool(9, 0, 50), 0);
        for (int wrong : new int[] {-1, 10, MIN_VALUE, MAX_VALUE}) {
            Check.illegal("13 from " + wrong, () -> x.cool(wrong, 0, 1));
            Check.illegal("13 to " + wrong, () -> x.cool(9, wrong, 1));
        }
        Check.illegal("13 to above from", () -> x.cool(3, 4, 1));
        for (int wrong : new int[] {0, 51, -1, MIN_VALUE, MAX_VALUE}) {
            Check.illegal("13 ticks " + wrong, () -> x.cool(9, 0, wrong));
        }
    }

    private static void soften() {
        Grainwright x = Check.of("12", "34");
        Check.due("14 none", x.soften(), 0);
        x.curve(9, 1);
        x.cool(9, 9, 3);
        Check.due("14 three", x.soften(), 3);
        Check.due("14 none is hard", x.metal(11), 0);
        Check.due("14 again", x.soften(), 0);
        Check.due("14 no lattice", new Grainwright().soften(), 0);
    }

    private static Grainwright worn() {
        Grainwright x = new Grainwright();
        x.lattice(4, 4, 6);
        x.pin(5);
        x.roll(3);
        return x;
    }

    private static void furnace() {
        Grainwright x = worn();
        long before = x.digest();
        Check.due("15 no step", x.furnace(0), x.metal(3));
        Check.due("15 no step changes nothing", x.digest(), before);
        for (int step = 0; step < 5; step++) {
            Grainwright one = worn();
            Grainwright other = worn();
            doStep(one, step);
            Check.due("15 size of step " + step, other.furnace(step + 1), one.metal(3));
            Check.due("15 step " + step, other.digest(), one.digest());
        }
        Grainwright one = worn();
        doStep(one, 3);
        doStep(one, 4);
        doStep(one, 0);
        Check.due("15 three steps", x.furnace(4 * 36 + 5 * 6 + 1), one.metal(3));
        Check.due("15 in their order", x.digest(), one.digest());
        Check.due("15 no lattice", new Grainwright().furnace(215), 0);
        for (int wrong : new int[] {-1, 6, 12, 30, 36, 37, 42, 72, 210, 216, MIN_VALUE, MAX_VALUE}) {
            Check.illegal("15 programme " + wrong, () -> x.furnace(wrong));
        }
    }

    private static void doStep(Grainwright x, int step) {
        switch (step) {
            case 0 -> x.heat(2, 2);
            case 1 -> x.heat(6, 2);
            case 2 -> x.heat(9, 1);
            case 3 -> x.roll(1);
            default -> x.born(6);
        }
    }
}
