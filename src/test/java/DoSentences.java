/** The sentences of promises 9 to 15: heat, rolls, cooling, and the furnace. */
final class DoSentences {
    private DoSentences() {
    }

    @Sentence(in = "Promise 9", says = "SWEEPS.")
    static void heatDoesSweeps() {
        for (int sweeps = 1; sweeps <= 12; sweeps++) {
            Grainwright once = FurnaceSentences.metal(5);
            Grainwright often = FurnaceSentences.metal(5);
            int taken = 0;
            for (int sweep = 0; sweep < sweeps; sweep++) {
                taken += often.heat(3, 1);
            }
            Check.due("heat(3, " + sweeps + ")", once.heat(3, sweeps), taken);
            Check.due("heat(3, " + sweeps + ") leaves", Pieces.state(once), Pieces.state(often));
        }
    }

    @Sentence(in = "Promise 9", says = "Returns in how many tries a CELL took a MARK")
    static void heatReturnsTries() {
        Grainwright x = Pieces.of("12", "12");
        Check.due("heat(0, 1)", x.heat(0, 1), 2);
        Check.due("heat(9, 12) of one MARK", x.heat(9, 12), 0);
        Grainwright melting = Pieces.of("8*", "8*");
        Check.due("a PARTICLE that is gone is no try", melting.heat(8, 2), 0);
        Check.due("both are gone", melting.picture(), "88/88");
    }

    @Sentence(in = "Promise 9", says = "(0 without a LATTICE; nothing is DRAWN then)")
    static void heatWithoutALattice() {
        for (int heat = 0; heat <= 9; heat++) {
            Grainwright x = new Grainwright();
            String before = Pieces.state(x);
            Check.due("heat(" + heat + ", 12)", x.heat(heat, 12), 0);
            Check.due("DRAWN", x.metal(14), 0);
            Check.due("the rest", Pieces.state(x), before);
        }
    }

    @Sentence(in = "Promise 9", says = "Throws `IllegalArgumentException` if heat is not 0 to 9, or sweeps not 1 to 12")
    static void heatThrows() {
        for (int wrong : Pieces.outside(0, 9)) {
            Check.illegal("heat(" + wrong + ", 1)", x -> x.heat(wrong, 1));
        }
        for (int wrong : Pieces.outside(1, 12)) {
            Check.illegal("heat(0, " + wrong + ")", x -> x.heat(0, wrong));
        }
        Grainwright x = Pieces.of("11", "11");
        Check.due("heat(0, 1), the least", x.heat(0, 1), 0);
        Check.due("heat(9, 12), the most", x.heat(9, 12), 0);
        Check.due("DRAWN by these", x.metal(14), 4 + 13 * 8);
    }

    @Sentence(in = "Promise 10", says = "ROLLS.")
    static void rollGoesOnAndOn() {
        for (int passes = 1; passes <= 9; passes++) {
            Grainwright once = FurnaceSentences.metal(3);
            Grainwright often = FurnaceSentences.metal(3);
            for (int pass = 0; pass < passes; pass++) {
                often.roll(1);
            }
            once.roll(passes);
            Check.due("roll(" + passes + ") leaves", Pieces.state(once), Pieces.state(often));
        }
    }

    @Sentence(in = "Promise 10", says = "Returns WORK of all CELLS then.")
    static void rollReturnsAllWork() {
        Grainwright x = Pieces.of("12", "*3");
        x.work(3, 4);
        Pieces.harden(x, 3);
        Check.due("roll(1)", x.roll(1), 2 + 3 + 4);
        Check.due("roll(1) again", x.roll(1), 4 + 6 + 4);
        Check.due("metal(12)", x.metal(12), 14);
        Check.due("roll(9) of PARTICLES", Pieces.of("**", "**").roll(9), 0);
        Check.due("roll(9) without a LATTICE", new Grainwright().roll(9), 0);
        Grainwright most = Pieces.checkerboard();
        most.roll(9);
        Check.due("roll(9) twice, the most", most.roll(9), 64 * 20);
    }

    @Sentence(in = "Promise 10", says = "Throws `IllegalArgumentException` if passes is not 1 to 9")
    static void rollThrows() {
        for (int wrong : Pieces.outside(1, 9)) {
            Check.illegal("roll(" + wrong + ")", x -> x.roll(wrong));
        }
        Check.due("roll(1), the least", Pieces.of("33", "33").roll(1), 4);
        Check.due("roll(9), the most", Pieces.of("33", "33").roll(9), 36);
    }

    @Sentence(in = "Promise 11", says = "New ones are BORN.")
    static void newOnesAreBorn() {
        Grainwright x = Pieces.of("12", "34");
        for (int cell = 0; cell < 4; cell++) {
            x.work(cell, 10);
        }
        // 7, 142, 2437, 497 modulo 9 are 7, 7, 7, 2; each has two others as it comes to it.
        x.born(10);
        Check.due("born(10) leaves", x.picture(), "88/83");
        Check.due("WORK", x.metal(12), 0);
    }

    @Sentence(in = "Promise 11", says = "Returns how many.")
    static void bornReturnsHowMany() {
        Grainwright x = Pieces.of("123", "4*6", "789");
        Check.due("born(1) without WORK", x.born(1), 0);
        for (int cell = 0; cell < 9; cell++) {
            x.work(cell, cell == 4 ? 0 : 20);
        }
        Check.due("born(20) of all but a PARTICLE", x.born(20), 8);
        Grainwright all = Pieces.checkerboard();
        all.roll(1);
        all.seed(7);
        Check.due("born(1) of 64", all.born(1), 64);
        Check.due("born(1) of 64 leaves", all.picture(),
                "88833436/46761982/15212587/53824977/76346361/82836951/42698837/36653652");
        Check.due("born(1) of PARTICLES", Pieces.of("**", "**").born(1), 0);
        Check.due("born(1) without a LATTICE", new Grainwright().born(1), 0);
    }

    @Sentence(in = "Promise 11", says = "Throws `IllegalArgumentException` if bar is not 1 to 20")
    static void bornThrows() {
        for (int wrong : Pieces.outside(1, 20)) {
            Check.illegal("born(" + wrong + ")", x -> x.born(wrong));
        }
        Grainwright x = Pieces.of("12", "34");
        x.work(0, 1);
        x.work(3, 20);
        Check.due("born(20), the most", x.born(20), 1);
        Check.due("born(1), the least", x.born(1), 1);
    }

    @Sentence(in = "Promise 12", says = "Tells the CURVE at a DEGREE.")
    static void curveIsTold() {
        Grainwright x = Pieces.of("12", "34");
        x.curve(4, 20);
        Check.due("50 TICKS at 4", x.cool(4, 4, 50), 2);
        x.soften();
        Check.due("50 TICKS at 5, as at first", x.cool(5, 5, 50), 1);
        x.soften();
        Check.due("50 TICKS at 3, as at first", x.cool(3, 3, 50), 1);
    }

    @Sentence(in = "Promise 12", says = "Returns that before.")
    static void curveReturnsThatBefore() {
        Grainwright x = new Grainwright();
        for (int degree = 0; degree <= 9; degree++) {
            Check.due("curve(" + degree + ", " + (90 + degree) + ")", x.curve(degree, 90 + degree), 50);
        }
        for (int degree = 0; degree <= 9; degree++) {
            Check.due("curve(" + degree + ", 1)", x.curve(degree, 1), 90 + degree);
            Check.due("curve(" + degree + ", 1) again", x.curve(degree, 1), 1);
        }
    }

    @Sentence(in = "Promise 12",
            says = "Throws `IllegalArgumentException` if degree is not 0 to 9, or time not 1 to 99")
    static void curveThrows() {
        for (int wrong : Pieces.outside(0, 9)) {
            Check.illegal("curve(" + wrong + ", 1)", x -> x.curve(wrong, 1));
        }
        for (int wrong : Pieces.outside(1, 99)) {
            Check.illegal("curve(0, " + wrong + ")", x -> x.curve(0, wrong));
        }
        Grainwright x = new Grainwright();
        Check.due("curve(0, 1), the least", x.curve(0, 1), 50);
        Check.due("curve(9, 99), the most", x.curve(9, 99), 50);
    }

    @Sentence(in = "Promise 13", says = "COOLS.")
    static void coolMakesCellsHard() {
        Grainwright x = Pieces.of("12", "34");
        x.work(2, 9);
        String before = x.picture();
        x.cool(9, 9, 50);
        Check.due("cool(9, 9, 50) leaves", x.etched(), "12/#4");
        Check.due("MARKS", x.picture(), before);
        Check.due("WORK", x.metal(12), 9);
        Check.due("DRAWN", x.metal(14), 4);
    }

    @Sentence(in = "Promise 13", says = "Returns how many CELLS became HARD.")
    static void coolReturnsHowMany() {
        Grainwright x = Pieces.of("12", "*4");
        x.curve(9, 1);
        Check.due("cool(9, 9, 1)", x.cool(9, 9, 1), 1);
        Check.due("cool(9, 9, 1), one more", x.cool(9, 9, 1), 1);
        Check.due("cool(9, 9, 50), of one that is left", x.cool(9, 9, 50), 1);
        Check.due("cool(9, 9, 50), of none", x.cool(9, 9, 50), 0);
        Check.due("cool(9, 0, 50) without a LATTICE", new Grainwright().cool(9, 0, 50), 0);
        Grainwright most = new Grainwright();
        most.lattice(8, 8, 9);
        for (int degree = 0; degree <= 9; degree++) {
            most.curve(degree, 1);
        }
        Check.due("cool(9, 0, 50), the most", most.cool(9, 0, 50), 64);
    }

    @Sentence(in = "Promise 13",
            says = "Throws `IllegalArgumentException` if from is not 0 to 9, to not 0 to from, or ticks not 1 to 50")
    static void coolThrows() {
        for (int wrong : Pieces.outside(0, 9)) {
            Check.illegal("cool(" + wrong + ", 0, 1)", x -> x.cool(wrong, 0, 1));
            Check.illegal("cool(9, " + wrong + ", 1)", x -> x.cool(9, wrong, 1));
            Check.illegal("cool(" + wrong + ", " + wrong + ", 1)", x -> x.cool(wrong, wrong, 1));
        }
        for (int degree = 0; degree <= 9; degree++) {
            int from = degree;
            Check.illegal("cool(" + from + ", " + (from + 1) + ", 1)", x -> x.cool(from, from + 1, 1));
            Check.illegal("cool(" + from + ", -1, 1)", x -> x.cool(from, -1, 1));
        }
        for (int wrong : Pieces.outside(1, 50)) {
            Check.illegal("cool(9, 0, " + wrong + ")", x -> x.cool(9, 0, wrong));
        }
        Check.due("cool(0, 0, 1), the least", Pieces.of("12", "34").cool(0, 0, 1), 0);
        Check.due("cool(9, 9, 50), the most", Pieces.of("12", "34").cool(9, 9, 50), 1);
        Check.due("cool(9, 0, 50), all", Pieces.of("12", "34").cool(9, 0, 50), 4);
    }

    @Sentence(in = "Promise 14", says = "SOFTENS.")
    static void softenTakesHardness() {
        Grainwright x = Pieces.of("12", "*4");
        x.work(3, 7);
        Pieces.harden(x, 0, 3);
        x.soften();
        Check.due("HARD CELLS", x.metal(11), 0);
        Check.due("WORK stays", x.metal(12), 7);
        Check.due("MARKS stay", x.picture(), "12/*4");
    }

    @Sentence(in = "Promise 14", says = "Returns how many were HARD.")
    static void softenReturnsHowManyWereHard() {
        Grainwright x = Pieces.of("12", "34");
        Check.due("soften() of none", x.soften(), 0);
        Pieces.harden(x, 0, 1, 3);
        Check.due("soften()", x.soften(), 3);
        Check.due("soften() again", x.soften(), 0);
        Pieces.hardenAll(x);
        x.pin(2);
        Check.due("soften() of all but a PARTICLE", x.soften(), 3);
        Check.due("soften(), the most", Pieces.utmost().soften(), 64);
        Check.due("soften() without a LATTICE", new Grainwright().soften(), 0);
    }

    @Sentence(in = "Promise 15", says = "Does a PROGRAMME.")
    static void furnaceDoesItsSteps() {
        Grainwright x = Pieces.of("12", "34");
        x.furnace(4 * 36 + 4 * 6 + 4);
        Check.due("WORK behind 444 to the base 6, three ROLLS", x.metal(12), 6 + 9 + 3 + 6);
        x.furnace(5);
        Check.due("WORK behind 5, what is BORN of 6, 9 and 6", x.metal(12), 3);
        Grainwright melting = Pieces.of("1*", "**");
        melting.furnace(3 * 6 + 3);
        Check.due("PARTICLES behind 33 to the base 6, melting twice", melting.metal(10), 1);
    }

    @Sentence(in = "Promise 15", says = "Returns size by AREA then.")
    static void furnaceReturnsTheSize() {
        Check.due("furnace(0)", Pieces.of("12", "3*").furnace(0), 100);
        Grainwright melting = Pieces.of("1*", "**");
        Check.due("furnace(3)", melting.furnace(3), 200);
        Check.due("furnace(21)", melting.furnace(21), 400);
        Grainwright etched = Pieces.of("12", "34");
        etched.etch(2);
        Check.due("furnace(0) by ETCH 2", etched.furnace(0), 400);
        Check.due("furnace(0), the most", Pieces.utmost().furnace(0), 6400);
        Check.due("furnace(215) of PARTICLES", Pieces.of("**", "**").furnace(215), 0);
        Check.due("furnace(215) without a LATTICE", new Grainwright().furnace(215), 0);
    }

    @Sentence(in = "Promise 15", says = "Throws `IllegalArgumentException` if programme is not 0 to 215")
    static void furnaceThrows() {
        for (int wrong : Pieces.outside(0, 215)) {
            Check.illegal("furnace(" + wrong + ")", x -> x.furnace(wrong));
        }
    }

    @Sentence(in = "Promise 15", says = "or has a digit 0 behind another one")
    static void furnaceThrowsOfA0BehindAnotherDigit() {
        int refused = 0;
        for (int programme = 0; programme <= 215; programme++) {
            int each = programme;
            if (FurnaceSentences.isProgramme(programme)) {
                Check.due("furnace(" + programme + ") of one CELL", Pieces.of("1*", "**").furnace(each) >= 100, true);
            } else {
                refused++;
                Check.illegal("furnace(" + programme + ")", x -> x.furnace(each));
            }
        }
        Check.due("how many of 216 are none", refused, 216 - 1 - 5 - 25 - 125);
    }
}
