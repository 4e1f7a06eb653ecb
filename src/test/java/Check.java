/** Counts the answers that are not the ones that are due. */
final class Check {
    private static int wrong = 0;

    private Check() {
    }

    static void due(String call, long got, long want) {
        if (got != want) {
            tell(call + " answered " + got + ", due is " + want);
        }
    }

    static void due(String call, String got, String want) {
        if (!want.equals(got)) {
            tell(call + " answered " + got + ", due is " + want);
        }
    }

    static void due(String call, boolean got, boolean want) {
        if (got != want) {
            tell(call + " answered " + got + ", due is " + want);
        }
    }

    static void throwsDue(String call, Class<? extends Exception> want, Runnable run) {
        try {
            run.run();
        } catch (RuntimeException e) {
            if (e.getClass() != want) {
                tell(call + " throws " + e + ", due is " + want.getSimpleName());
            }
            return;
        }
        tell(call + " throws nothing, due is " + want.getSimpleName());
    }

    static void illegal(String call, Runnable run) {
        throwsDue(call, IllegalArgumentException.class, run);
    }

    static void outside(String call, Runnable run) {
        throwsDue(call, IndexOutOfBoundsException.class, run);
    }

    static void tell(String text) {
        wrong++;
        if (wrong <= 40) {
            System.out.println(text);
        }
    }

    static void end(String name) {
        System.out.println(name + ": " + (wrong == 0 ? "all answers are as due" : wrong + " answers are not as due"));
        if (wrong != 0) {
            System.exit(1);
        }
    }

    /** A LATTICE of these rows, as picture() tells them; the ROW is begun anew with 7. */
    static Grainwright of(String... rows) {
        Grainwright x = new Grainwright();
        lay(x, rows);
        return x;
    }

    static void lay(Grainwright x, String... rows) {
        x.lattice(rows[0].length(), rows.length, 1);
        int cell = 0;
        for (String row : rows) {
            for (char sign : row.toCharArray()) {
                if (sign == '*') {
                    x.pin(cell);
                } else {
                    x.mark(cell, sign - '0');
                }
                cell++;
            }
        }
        x.seed(7);
    }
}
