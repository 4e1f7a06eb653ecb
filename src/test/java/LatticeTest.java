import static java.lang.Integer.MAX_VALUE;
import static java.lang.Integer.MIN_VALUE;

/** Promises 1 to 8: what is told of the lattice. */
public final class LatticeTest {
    private LatticeTest() {
    }

    public static void main(String[] args) {
        newObject();
        lattice();
        latticeKeepsWhatIsTold();
        seed();
        mark();
        pin();
        work();
        misfit();
        etch();
        Check.end("LatticeTest");
    }

    private static void newObject() {
        Grainwright x = new Grainwright();
        Check.due("1 picture", x.picture(), "-");
        for (int what = 0; what <= 15; what++) {
            Check.due("1 metal " + what, x.metal(what), 0);
        }
        Check.due("1 seed draws 7 first", new Grainwright().digest(), 8663514773000550538L);
    }

    private static void lattice() {
        Grainwright x = new Grainwright();
        // DRAWN: 7, 142, 2437, 497: modulo 9 these are 7, 7, 7, 2.
        Check.due("2 lattice", x.lattice(2, 2, 9), 2);
        Check.due("2 picture", x.picture(), "88/83");
        Check.due("2 drawn", x.metal(14), 4);
        // Then 281, 4800, 7904, 3335, 7572, 5882: modulo 4 these are 1, 0, 0, 3, 0, 2.
        Check.due("2 wide", x.lattice(3, 2, 4), 4);
        Check.due("2 picture wide", x.picture(), "211/413");
        Check.due("2 cells", x.metal(13), 6);
        Check.due("2 one mark", x.lattice(8, 8, 1), 1);
        Check.due("2 cells of the greatest", x.metal(13), 64);
        Check.due("2 drawn of all", x.metal(14), 74);
        for (int wrong : new int[] {1, 9, 0, -1, MIN_VALUE, MAX_VALUE}) {
            Check.illegal("2 wide " + wrong, () -> x.lattice(wrong, 2, 1));
            Check.illegal("2 high " + wrong, () -> x.lattice(2, wrong, 1));
        }
        for (int wrong : new int[] {0, 10, -1, MIN_VALUE, MAX_VALUE}) {
            Check.illegal("2 marks " + wrong, () -> x.lattice(2, 2, wrong));
        }
        Check.due("2 a wrong one changes nothing", x.metal(13) + x.metal(14), 64 + 74);
    }

    private static void latticeKeepsWhatIsTold() {
        Grainwright x = Check.of("1*", "12");
        x.work(3, 5);
        x.curve(9, 1);
        x.cool(9, 9, 1);
        x.misfit(1, 2, 7);
        x.etch(8);
        Check.due("2 hard before", x.metal(11), 1);
        x.lattice(2, 2, 1);
        Check.due("2 particles are gone", x.metal(10), 0);
        Check.due("2 work is gone", x.metal(12), 0);
        Check.due("2 hard cells are gone", x.metal(11), 0);
        Check.due("2 misfit stays", x.misfit(1, 2, 8), 7);
        x.mark(0, 2);
        Check.due("2 etch stays", x.metal(2), 2);
        Check.due("2 curve stays", x.curve(9, 2), 1);
    }

    private static void seed() {
        Grainwright x = new Grainwright();
        Check.due("3 seed", x.seed(100), 0);
        // 100, 1723, 4741, 6901 modulo 9: 1, 4, 7, 7.
        x.lattice(2, 2, 9);
        Check.due("3 picture", x.picture(), "25/88");
        Check.due("3 drawn ever", x.seed(0), 4);
        // 0, 23, 414, 7061 modulo 9: 0, 5, 0, 5.
        x.lattice(2, 2, 9);
        Check.due("3 picture from 0", x.picture(), "16/16");
        Check.due("3 drawn ever is not begun anew", x.seed(999), 8);
        for (int wrong : new int[] {-1, 1000, MIN_VALUE, MAX_VALUE}) {
            Check.illegal("3 seed " + wrong, () -> x.seed(wrong));
        }
    }

    private static void mark() {
        Grainwright x = Check.of("12", "*3");
        Check.due("4 mark", x.mark(0, 9), 1);
        Check.due("4 mark again", x.mark(0, 4), 9);
        Check.due("4 a particle", x.mark(2, 5), 0);
        Check.due("4 picture", x.picture(), "42/53");
        x.work(3, 6);
        x.curve(9, 1);
        x.cool(9, 9, 1);
        Check.due("4 a hard one", x.mark(3, 1), 3);
        Check.due("4 work stays", x.ofCell(3, 1), 6);
        Check.due("4 hard stays", x.ofCell(3, 2), 1);
        for (int wrong : new int[] {-1, 4, MIN_VALUE, MAX_VALUE}) {
            Check.outside("4 cell " + wrong, () -> x.mark(wrong, 0));
        }
        for (int wrong : new int[] {0, 10, -1, MIN_VALUE, MAX_VALUE}) {
            Check.illegal("4 mark " + wrong, () -> x.mark(3, wrong));
        }
        Check.outside("4 no lattice", () -> new Grainwright().mark(0, 1));
    }

    private static void pin() {
        Grainwright x = Check.of("12", "34");
        x.work(3, 6);
        x.curve(9, 1);
        x.cool(9, 9, 1);
        Check.due("5 pin", x.pin(3), 1);
        Check.due("5 work", x.ofCell(3, 1), 0);
        Check.due("5 hard", x.ofCell(3, 2), 0);
        Check.due("5 pin again", x.pin(0), 2);
        Check.due("5 picture", x.picture(), "*2/3*");
        Check.throwsDue("5 a particle", IllegalStateException.class, () -> x.pin(3));
        for (int wrong : new int[] {-1, 4, MIN_VALUE, MAX_VALUE}) {
            Check.outside("5 cell " + wrong, () -> x.pin(wrong));
        }
        Check.outside("5 no lattice", () -> new Grainwright().pin(0));
    }

    private static void work() {
        Grainwright x = Check.of("12", "*4");
        Check.due("6 work", x.work(3, 20), 0);
        Check.due("6 work again", x.work(3, 0), 20);
        Check.due("6 work of a particle", x.work(2, 0), 0);
        Check.throwsDue("6 some of a particle", IllegalStateException.class, () -> x.work(2, 1));
        Check.illegal("6 too much of a particle", () -> x.work(2, 21));
        for (int wrong : new int[] {-1, 4, MIN_VALUE, MAX_VALUE}) {
            Check.outside("6 cell " + wrong, () -> x.work(wrong, -1));
        }
        for (int wrong : new int[] {-1, 21, MIN_VALUE, MAX_VALUE}) {
            Check.illegal("6 work " + wrong, () -> x.work(3, wrong));
        }
        Check.outside("6 no lattice", () -> new Grainwright().work(0, 0));
    }

    private static void misfit() {
        Grainwright x = Check.of("12", "21");
        Check.due("7 at first", x.metal(0), 4);
        Check.due("7 misfit", x.misfit(1, 2, 9), 1);
        Check.due("7 for both orders", x.misfit(2, 1, 3), 9);
        Check.due("7 energy", x.metal(0), 12);
        for (int one = 1; one <= 9; one++) {
            for (int other = one + 1; other <= 9; other++) {
                Check.due("7 of " + one + " and " + other, x.misfit(one, other, 1), one == 1 && other == 2 ? 3 : 1);
            }
        }
        for (int wrong : new int[] {0, 10, -1, MIN_VALUE, MAX_VALUE}) {
            Check.illegal("7 one " + wrong, () -> x.misfit(wrong, 2, 1));
            Check.illegal("7 other " + wrong, () -> x.misfit(2, wrong, 1));
            Check.illegal("7 misfit " + wrong, () -> x.misfit(1, 2, wrong));
        }
        Check.illegal("7 the same", () -> x.misfit(5, 5, 1));
    }

    private static void etch() {
        Grainwright x = Check.of("123", "*23");
        x.misfit(1, 2, 3);
        x.misfit(2, 3, 5);
        Check.due("8 etch 1", x.etch(1), 3);
        Check.due("8 as much as the least", x.etch(3), 3);
        Check.due("8 above the least", x.etch(4), 2);
        Check.due("8 etched", x.etched(), "113/*13");
        Check.due("8 as much as the other", x.etch(5), 2);
        Check.due("8 above both", x.etch(6), 1);
        Check.due("8 etch 9", x.etch(9), 1);
        Check.due("8 a particle is always seen", x.metal(9), 2);
        Check.due("8 particles part", Check.of("1*", "*1").etch(9), 2);
        Check.due("8 no lattice", new Grainwright().etch(9), 0);
        for (int wrong : new int[] {0, 10, -1, MIN_VALUE, MAX_VALUE}) {
            Check.illegal("8 etch " + wrong, () -> x.etch(wrong));
        }
    }
}
