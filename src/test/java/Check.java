import java.util.function.Consumer;

/** Counts the answers that are not the ones that are due. */
final class Check {
    private static final int MOST_TOLD = 40;
    private static String sentence = "";
    private static int wrong = 0;

    private Check() {
    }

    /** What is told from here on is told of this sentence. */
    static void begin(String newSentence) {
        sentence = newSentence;
    }

    static void due(String call, Object got, Object want) {
        if (!want.equals(got)) {
            tell(call + " answered " + got + ", due is " + want);
        }
    }

    static void due(String call, long got, long want) {
        due(call, (Object) got, (Object) want);
    }

    /** The call must throw this on x, and leave it as it was. */
    static void refused(Class<? extends Exception> due, String call, Grainwright x, Consumer<Grainwright> calling) {
        String before = Pieces.state(x);
        String thrown = "nothing";
        try {
            calling.accept(x);
        } catch (RuntimeException e) {
            thrown = e.getClass().getSimpleName();
        }
        due(call + " throws", thrown, due.getSimpleName());
        due(call + " leaves", Pieces.state(x), before);
    }

    /** The call must throw IllegalArgumentException, with a LATTICE and without one. */
    static void illegal(String call, Consumer<Grainwright> calling) {
        refused(IllegalArgumentException.class, call, Pieces.full(), calling);
        refused(IllegalArgumentException.class, call + " without a LATTICE", new Grainwright(), calling);
    }

    /** The call must throw IllegalArgumentException on Pieces.full(); without a LATTICE something else is due. */
    static void illegalOfCell(String call, Consumer<Grainwright> calling) {
        refused(IllegalArgumentException.class, call, Pieces.full(), calling);
    }

    /** The call must throw IndexOutOfBoundsException, with a LATTICE and without one. */
    static void outside(String call, Consumer<Grainwright> calling) {
        refused(IndexOutOfBoundsException.class, call, Pieces.full(), calling);
        outsideWithoutLattice(call, calling);
    }

    static void outsideWithoutLattice(String call, Consumer<Grainwright> calling) {
        refused(IndexOutOfBoundsException.class, call + " without a LATTICE", new Grainwright(), calling);
    }

    static void tell(String text) {
        wrong++;
        if (wrong <= MOST_TOLD) {
            System.out.println((sentence.isEmpty() ? "" : sentence + "\n    ") + text);
        }
    }

    static void end(String name) {
        System.out.println(name + ": " + (wrong == 0 ? "all answers are as due" : wrong + " answers are not as due"));
        if (wrong != 0) {
            System.exit(1);
        }
    }
}
