import static java.lang.Integer.MAX_VALUE;
import static java.lang.Integer.MIN_VALUE;

/** Promises 26 to 31: what would be, and what sums it all up. */
public final class WouldTest {
    private WouldTest() {
    }

    public static void main(String[] args) {
        wouldHeat();
        best();
        bestOfTheSameSize();
        least();
        leastRefuses();
        wouldCool();
        isSound();
        digest();
        Check.end("WouldTest");
    }

    private static Grainwright worn() {
        Grainwright x = new Grainwright();
        x.lattice(5, 4, 7);
        x.pin(7);
        x.pin(8);
        x.misfit(1, 2, 5);
        x.misfit(3, 4, 2);
        x.roll(2);
        x.cool(9, 0, 20);
        x.etch(2);
        return x;
    }

    private static void wouldHeat() {
        Grainwright x = worn();
        long before = x.digest();
        for (int heat = 0; heat <= 9; heat++) {
            for (int sweeps = 1; sweeps <= 4; sweeps++) {
                Grainwright other = worn();
                other.heat(heat, sweeps);
                for (int what = 0; what <= 15; what++) {
                    int would = x.wouldHeat(heat, sweeps, what);
                    Check.due("26 " + heat + " " + sweeps + " " + what, would, other.metal(what));
                }
            }
        }
        Check.due("26 nothing is changed", x.digest(), before);
        Grainwright none = new Grainwright();
        for (int what = 0; what <= 15; what++) {
            Check.due("26 no lattice " + what, none.wouldHeat(9, 4, what), 0);
        }
        for (int wrong : new int[] {-1, 10, MIN_VALUE, MAX_VALUE}) {
            Check.illegal("26 heat " + wrong, () -> x.wouldHeat(wrong, 1, 0));
        }
        for (int wrong : new int[] {0, 5, -1, MIN_VALUE, MAX_VALUE}) {
            Check.illegal("26 sweeps " + wrong, () -> x.wouldHeat(1, wrong, 0));
        }
        for (int wrong : new int[] {-1, 16, MIN_VALUE, MAX_VALUE}) {
            Check.illegal("26 what " + wrong, () -> x.wouldHeat(1, 1, wrong));
        }
    }

    private static Grainwright rolled(int seed) {
        Grainwright x = new Grainwright();
        x.seed(seed);
        x.lattice(2 + seed % 4, 5, 9);
        x.roll(3);
        return x;
    }

    private static Grainwright pieceFor(int kind) {
        return kind == 0 ? worn() : rolled(kind);
    }

    private static void best() {
        for (int kind = 0; kind < 10; kind++) {
            bestOf(kind);
        }
        Grainwright x = worn();
        for (int wrong : new int[] {-1, 6401, MIN_VALUE, MAX_VALUE}) {
            Check.illegal("27 aim " + wrong, () -> x.best(wrong, true));
        }
    }

    private static void bestOf(int kind) {
        int[] sizes = new int[216];
        for (int programme = 0; programme <= 215; programme++) {
            try {
                sizes[programme] = pieceFor(kind).furnace(programme);
            } catch (IllegalArgumentException e) {
                sizes[programme] = -1;
            }
        }
        Grainwright x = pieceFor(kind);
        long before = x.digest();
        for (int aim = 0; aim <= 6400; aim += aim < 600 ? 25 : 580) {
            int want = 0;
            for (int programme = 1; programme <= 215; programme++) {
                boolean isNearer = Math.abs(sizes[programme] - aim) < Math.abs(sizes[want] - aim);
                want = sizes[programme] >= 0 && isNearer ? programme : want;
            }
            Check.due("27 programme for " + aim + " of " + kind, x.best(aim, false), want);
            Check.due("27 size for " + aim + " of " + kind, x.best(aim, true), sizes[want]);
        }
        Check.due("27 nothing is changed", x.digest(), before);
    }

    private static void bestOfTheSameSize() {
        Grainwright x = Check.of("11", "11");
        Check.due("27 all the same", x.best(6400, false), 0);
        Check.due("27 their size", x.best(6400, true), 400);
        Check.due("27 no lattice", new Grainwright().best(6400, false), 0);
        Check.due("27 size without a lattice", new Grainwright().best(6400, true), 0);
        // Only to melt makes this one larger: one STEP of it for each PARTICLE, one after the other.
        Grainwright melting = Check.of("1*", "**");
        Check.due("27 one step", melting.best(200, false), 3);
        Check.due("27 as near from below and above", melting.best(250, false), 3);
        Check.due("27 two steps", melting.best(300, false), 3 * 6 + 3);
        Check.due("27 three steps", melting.best(400, false), 3 * 36 + 3 * 6 + 3);
    }

    private static void least() {
        Grainwright x = Check.of("131", "332");
        Check.due("28 energy", x.least(33, true), 2);
        Check.due("28 the smallest cell first", x.least(33, false), 31);
        Check.due("28 one cell", x.least(1, false), 3);
        Check.due("28 one cell's energy", x.least(1, true), 3);
        x.work(0, 5);
        Check.due("28 work is as it is", x.least(33, true), 12);
        Check.due("28 pairs of two of them", x.least(1 << 2 | 1 << 5, false), 33);
        Check.due("28 energy of two", x.least(1 << 2 | 1 << 5, true), 2 + 10);
        x.misfit(1, 3, 9);
        Check.due("28 by misfit", x.least(1 << 2, false), 2);
        Check.due("28 four cells", x.least(1 << 0 | 1 << 2 | 1 << 4 | 1 << 5, false), 3333);
        Check.due("28 four cells' energy", x.least(1 << 0 | 1 << 2 | 1 << 4 | 1 << 5, true), 10);
        Check.due("28 nothing is changed", x.picture(), "131/332");
        Grainwright y = Check.of("12", "12");
        Check.due("28 the smallest of several", y.least(1, false), 1);
        Check.due("28 all of it", y.least(15, false), 1111);
        Check.due("28 only marks that there are", Check.of("45", "54").least(15, false), 4444);
        Check.due("28 beside particles", Check.of("7*", "*9").least(9, false), 77);
        Grainwright large = new Grainwright();
        large.lattice(8, 8, 9);
        Check.due("28 the last cell of all", large.least(1 << 29, true) <= large.metal(0), true);
    }

    private static void leastRefuses() {
        Grainwright x = Check.of("123", "4*6");
        for (int wrong : new int[] {0, -1, 31, 1 << 4, 1 << 4 | 1, 1 << 6, 1 << 29, 1 << 30, MIN_VALUE, MAX_VALUE}) {
            Check.illegal("28 set " + wrong, () -> x.least(wrong, true));
            Check.illegal("28 set " + wrong, () -> x.least(wrong, false));
        }
        x.work(5, 1);
        x.curve(9, 1);
        x.cool(9, 9, 1);
        Check.illegal("28 a hard one", () -> x.least(1 << 5, true));
        Check.due("28 but the others", x.least(1 << 3, false), 1);
        Check.illegal("28 no lattice", () -> new Grainwright().least(1, true));
        Grainwright large = new Grainwright();
        large.lattice(8, 8, 9);
        Check.illegal("28 cell 30", () -> large.least(1 << 30, true));
        Check.illegal("28 cell 31", () -> large.least(1 << 31, true));
        Check.illegal("28 five cells", () -> large.least(31, true));
    }

    private static void wouldCool() {
        Grainwright x = new Grainwright();
        x.lattice(3, 3, 4);
        x.curve(9, 10);
        Check.due("29 one", x.wouldCool(9, 9, 1), 10);
        Check.due("29 five", x.wouldCool(9, 9, 5), 50);
        Check.due("29 six", x.wouldCool(9, 9, 6), -1);
        Check.due("29 two degrees", x.wouldCool(9, 8, 1), 9);
        x.curve(7, 1);
        Check.due("29 at once", x.wouldCool(7, 7, 1), 1);
        Check.due("29 all", x.wouldCool(7, 7, 9), 9);
        Check.due("29 more than all", x.wouldCool(7, 7, 10), -1);
        x.pin(4);
        Check.due("29 a particle", x.wouldCool(7, 7, 9), -1);
        x.cool(7, 7, 2);
        Check.due("29 hard ones", x.wouldCool(7, 7, 6), 6);
        Check.due("29 no more than the others", x.wouldCool(7, 7, 7), -1);
        Check.due("29 nothing is changed", x.metal(11), 2);
        Check.due("29 no lattice", new Grainwright().wouldCool(9, 0, 1), -1);
        for (int wrong : new int[] {-1, 10, MIN_VALUE, MAX_VALUE}) {
            Check.illegal("29 from " + wrong, () -> x.wouldCool(wrong, 0, 1));
            Check.illegal("29 to " + wrong, () -> x.wouldCool(9, wrong, 1));
        }
        Check.illegal("29 to above from", () -> x.wouldCool(4, 5, 1));
        for (int wrong : new int[] {0, 65, -1, MIN_VALUE, MAX_VALUE}) {
            Check.illegal("29 many " + wrong, () -> x.wouldCool(9, 0, wrong));
        }
        Check.due("29 64", x.wouldCool(9, 0, 64), -1);
    }

    private static void isSound() {
        Check.due("30 no lattice", new Grainwright().isSound(), true);
        Check.due("30 particles alone", Check.of("**", "**").isSound(), true);
        Grainwright x = worn();
        Check.due("30 worn", x.isSound(), true);
        for (int heat = 0; heat <= 9; heat++) {
            x.heat(heat, 3);
            x.roll(1);
            x.born(heat + 1);
            Check.due("30 behind heat " + heat, x.isSound(), true);
        }
    }

    private static void digest() {
        Grainwright x = worn();
        long want = 58288;
        for (int what = 0; what <= 15; what++) {
            want = want * 31 + x.metal(what);
        }
        for (int cell = 0; cell < 20; cell++) {
            for (int what = 0; what <= 5; what++) {
                want = want * 31 + x.ofCell(cell, what);
            }
        }
        for (int grain = 0; grain < x.metal(1); grain++) {
            for (int what = 0; what <= 6; what++) {
                want = want * 31 + x.ofGrain(grain, what);
            }
        }
        for (int mark = 1; mark <= 9; mark++) {
            want = want * 31 + x.texture(mark);
        }
        for (int line = 0; line < 9; line++) {
            want = want * 31 + x.line(line, true);
        }
        for (int many = 0; many <= 6; many++) {
            want = want * 31 + x.sided(many);
        }
        x.seed(321);
        Check.due("31 digest", x.digest(), (want * 31 + 321) * 31 + 1);
        Check.due("31 the next of the row", new Grainwright().digest() - seeded(8), -31);
    }

    private static long seeded(int seed) {
        Grainwright x = new Grainwright();
        x.seed(seed);
        return x.digest();
    }
}
