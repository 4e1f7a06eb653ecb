/** Metals that tests begin with, and what many tests look at. */
final class Pieces {
    /** How many CELLS full() has, and how many GRAINS; its CELL 8 is a PARTICLE. */
    static final int CELLS_OF_FULL = 24;
    static final int GRAINS_OF_FULL = 9;
    static final int PARTICLE_OF_FULL = 8;

    private Pieces() {
    }

    /** A LATTICE of these rows, as picture() tells them; the ROW is begun anew with 7. */
    static Grainwright of(String... rows) {
        Grainwright x = new Grainwright();
        x.lattice(rows[0].length(), rows.length, 1);
        int cell = 0;
        for (String row : rows) {
            for (char sign : row.toCharArray()) {
                if (sign == '*') {
                    x.pin(cell);
                } else {
                    x.mark(cell, sign - '0');
                }
                cell++;
            }
        }
        x.seed(7);
        return x;
    }

    /** The greatest LATTICE, with as many GRAINS as can be; all of 1 and 2. */
    static Grainwright checkerboard() {
        Grainwright x = new Grainwright();
        x.lattice(8, 8, 1);
        for (int cell = 0; cell < 64; cell++) {
            x.mark(cell, 1 + (cell / 8 + cell) % 2);
        }
        return x;
    }

    /** The greatest LATTICE, of one MARK alone; all of it has WORK of 20 and is HARD. */
    static Grainwright utmost() {
        Grainwright x = new Grainwright();
        x.lattice(8, 8, 1);
        x.roll(9);
        x.roll(9);
        x.curve(9, 1);
        x.cool(9, 9, 50);
        x.cool(9, 9, 14);
        return x;
    }

    /** A GRAIN of the MARK 1 that goes round 28 others of one CELL each. */
    static Grainwright comb() {
        return of("11111111", "12121212", "13131313", "12121212", "13131313", "12121212", "13131313", "12121212");
    }

    /** One of which nothing is as at first, and each ETCH sees another number of GRAINS. */
    static Grainwright full() {
        Grainwright x = of("12345678", "*******9", "99999999");
        for (int mark = 1; mark <= 8; mark++) {
            x.misfit(mark, mark + 1, mark);
            x.work(mark - 1, mark + 1);
        }
        for (int degree = 0; degree <= 9; degree++) {
            x.curve(degree, 11 + degree);
        }
        harden(x, 2, 5, 23);
        x.etch(4);
        x.seed(123);
        return x;
    }

    /** Makes just these CELLS HARD, more than there were; all else is left as it was. */
    static void harden(Grainwright x, int... cells) {
        int[] works = new int[x.metal(13)];
        for (int cell = 0; cell < works.length; cell++) {
            works[cell] = x.work(cell, 0);
        }
        for (int cell : cells) {
            x.work(cell, 20);
        }
        int time = x.curve(9, 1);
        x.cool(9, 9, cells.length);
        x.curve(9, time);
        for (int cell = 0; cell < works.length; cell++) {
            x.work(cell, works[cell]);
        }
    }

    static void hardenAll(Grainwright x) {
        int time = x.curve(9, 1);
        x.cool(9, 9, Math.min(50, x.metal(13)));
        x.curve(9, time);
    }

    /** The last CELL alone can take a MARK; by the one above CHANGE is this MISFIT less 2. */
    static Grainwright freeLastCell(int misfit) {
        Grainwright x = of("42", "31");
        harden(x, 0, 1, 2);
        x.misfit(2, 3, misfit);
        return x;
    }

    /** All that are too small or too large for least to most. */
    static int[] outside(int least, int most) {
        return new int[] {least - 1, most + 1, least - 1000, most + 1000, Integer.MIN_VALUE, Integer.MAX_VALUE};
    }

    /** The number that would be DRAWN next; the ROW begins anew with 0 behind this. */
    static long nextOfRow(Grainwright x) {
        long before = x.digest();
        x.seed(0);
        return (before - x.digest()) / 31;
    }

    /** All that can be told of an object, what digest() leaves out (MISFITS and CURVE), too. */
    static String state(Grainwright x) {
        StringBuilder text = new StringBuilder();
        text.append(x.digest()).append(' ').append(x.picture()).append(' ').append(x.etched());
        for (int degree = 0; degree <= 9; degree++) {
            int time = x.curve(degree, 1);
            x.curve(degree, time);
            text.append(' ').append(time);
        }
        for (int one = 1; one <= 9; one++) {
            for (int other = one + 1; other <= 9; other++) {
                int misfit = x.misfit(one, other, 1);
                x.misfit(one, other, misfit);
                text.append(' ').append(misfit);
            }
        }
        return text.toString();
    }
}
