import java.util.Arrays;

/** A metal as a crowd of small crystals; see README.md for the words and for how it is built. */
public final class Grainwright {
    private static final int NONE = -1;
    private static final int PARTICLE = 0;
    private static final int LEAST_SIDE = 2;
    private static final int MOST_SIDE = 8;
    private static final int MOST_CELLS = 64;
    private static final int MOST_BESIDE = 4;
    private static final int MARKS = 9;
    private static final int MOST_MISFIT = 9;
    private static final int MOST_WORK = 20;
    private static final int TURNING_WORK = 10;
    private static final int ALL_SEEN = 1;
    private static final int MOST_ETCH = 9;

    private static final int FIRST_OF_ROW = 7;
    private static final int ROW_FACTOR = 17;
    private static final int ROW_ADDEND = 23;
    private static final int ROW_MODULUS = 8191;
    private static final int MOST_SEED = 999;

    private static final int MOST_HEAT = 9;
    private static final int MELTING_HEAT = 8;
    private static final int MOST_EASING_HEAT = 4;
    private static final int MOST_SWEEPS = 12;
    private static final int MOST_WOULD_SWEEPS = 4;
    private static final int MOST_PASSES = 9;

    private static final int DEGREES = 10;
    private static final int FIRST_TIME = 50;
    private static final int MOST_TIME = 99;
    private static final int FULL_SUM = 1000;
    private static final int MOST_TICKS = 50;

    private static final int STEPS = 5;
    private static final int HOLD = 0;
    private static final int SOAK = 1;
    private static final int MELT = 2;
    private static final int ROLL = 3;
    private static final int BEAR = 4;
    private static final int BEARING_BAR = 6;
    private static final int DIGITS = 6;
    private static final int FIRST_PLACE = DIGITS * DIGITS;
    private static final int MOST_PROGRAMME = DIGITS * DIGITS * DIGITS - 1;
    private static final int MOST_AIM = 6400;

    private static final int CELL_NUMBERS = 6;
    private static final int GRAIN_NUMBERS = 7;
    private static final int METAL_NUMBERS = 16;
    private static final int SIDED_NUMBERS = 7;
    private static final int NUMBERS_DRAWN = 14;
    private static final int CHOOSABLE_CELLS = 30;
    private static final int MOST_CHOSEN = 4;
    private static final int BITS_OF_SET = 31;
    private static final long DIGEST_START = 58288L;
    private static final long DIGEST_FACTOR = 31L;

    private final Shape shape = new Shape();
    private final Rules rules = new Rules();
    private final Piece piece = new Piece(shape, rules);
    private final Piece trial = new Piece(shape, rules);
    private final Survey survey = new Survey(shape, rules, piece);
    private final Furnace oven = new Furnace(shape, rules, trial);
    private final Choice choice = new Choice(shape, rules, trial);

    public Grainwright() {
    }

    // ---- the lattice

    public int lattice(int wide, int high, int marks) throws IllegalArgumentException {
        if (!isWithin(wide, LEAST_SIDE, MOST_SIDE) || !isWithin(high, LEAST_SIDE, MOST_SIDE)
                || !isWithin(marks, 1, MARKS)) {
            throw new IllegalArgumentException();
        }
        shape.layOut(wide, high);
        piece.castAnew(marks);
        survey.look(piece);
        return survey.grainMany();
    }

    public int seed(int seed) throws IllegalArgumentException {
        if (!isWithin(seed, 0, MOST_SEED)) {
            throw new IllegalArgumentException();
        }
        piece.beginRow(seed);
        return piece.drawnEver();
    }

    public int mark(int cell, int mark) throws IndexOutOfBoundsException, IllegalArgumentException {
        if (!shape.holds(cell)) {
            throw new IndexOutOfBoundsException();
        }
        if (!isWithin(mark, 1, MARKS)) {
            throw new IllegalArgumentException();
        }
        int before = piece.markAt(cell);
        piece.putMark(cell, mark);
        return before;
    }

    public int pin(int cell) throws IndexOutOfBoundsException, IllegalStateException {
        if (!shape.holds(cell)) {
            throw new IndexOutOfBoundsException();
        }
        if (piece.markAt(cell) == PARTICLE) {
            throw new IllegalStateException();
        }
        piece.putMark(cell, PARTICLE);
        piece.putWork(cell, 0);
        piece.putHard(cell, 0);
        return piece.particles();
    }

    public int work(int cell, int work)
            throws IndexOutOfBoundsException, IllegalArgumentException, IllegalStateException {
        if (!shape.holds(cell)) {
            throw new IndexOutOfBoundsException();
        }
        if (!isWithin(work, 0, MOST_WORK)) {
            throw new IllegalArgumentException();
        }
        if (piece.markAt(cell) == PARTICLE && work != 0) {
            throw new IllegalStateException();
        }
        int before = piece.workAt(cell);
        piece.putWork(cell, work);
        return before;
    }

    public int misfit(int one, int other, int misfit) throws IllegalArgumentException {
        if (!areTwoMarks(one, other) || !isWithin(misfit, 1, MOST_MISFIT)) {
            throw new IllegalArgumentException();
        }
        int before = rules.misfitOf(one, other);
        rules.putMisfit(one, other, misfit);
        return before;
    }

    public int etch(int etch) throws IllegalArgumentException {
        if (!isWithin(etch, 1, MOST_ETCH)) {
            throw new IllegalArgumentException();
        }
        rules.putEtch(etch);
        survey.look(piece);
        return survey.seenMany();
    }

    // ---- heat, rolls, cooling

    public int heat(int heat, int sweeps) throws IllegalArgumentException {
        if (!isWithin(heat, 0, MOST_HEAT) || !isWithin(sweeps, 1, MOST_SWEEPS)) {
            throw new IllegalArgumentException();
        }
        return piece.sweepOften(heat, sweeps);
    }

    public int roll(int passes) throws IllegalArgumentException {
        if (!isWithin(passes, 1, MOST_PASSES)) {
            throw new IllegalArgumentException();
        }
        for (int pass = 0; pass < passes; pass++) {
            piece.rollOnce();
        }
        return piece.allWork();
    }

    public int born(int bar) throws IllegalArgumentException {
        if (!isWithin(bar, 1, MOST_WORK)) {
            throw new IllegalArgumentException();
        }
        return piece.bear(bar);
    }

    public int curve(int degree, int time) throws IllegalArgumentException {
        if (!isWithin(degree, 0, DEGREES - 1) || !isWithin(time, 1, MOST_TIME)) {
            throw new IllegalArgumentException();
        }
        int before = rules.timeAt(degree);
        rules.putTime(degree, time);
        return before;
    }

    public int cool(int from, int to, int ticks) throws IllegalArgumentException {
        if (!isCooling(from, to) || !isWithin(ticks, 1, MOST_TICKS)) {
            throw new IllegalArgumentException();
        }
        return piece.coolDown(from, to, ticks);
    }

    public int soften() {
        return piece.loosenAll();
    }

    public int furnace(int programme) throws IllegalArgumentException {
        if (!isProgramme(programme)) {
            throw new IllegalArgumentException();
        }
        // The divisor ends at 0, behind the last digit.
        for (int place = FIRST_PLACE; place > 0; place /= DIGITS) {
            piece.doStep(programme / place % DIGITS - 1);
        }
        survey.look(piece);
        return survey.sizeByArea();
    }

    // ---- what is asked

    public int ofCell(int cell, int what) throws IndexOutOfBoundsException, IllegalArgumentException {
        if (!shape.holds(cell)) {
            throw new IndexOutOfBoundsException();
        }
        if (!isWithin(what, 0, CELL_NUMBERS - 1)) {
            throw new IllegalArgumentException();
        }
        survey.look(piece);
        return survey.cellNumber(cell, what);
    }

    public int ofGrain(int grain, int what) throws IndexOutOfBoundsException, IllegalArgumentException {
        survey.look(piece);
        if (!isWithin(grain, 0, survey.grainMany() - 1)) {
            throw new IndexOutOfBoundsException();
        }
        if (!isWithin(what, 0, GRAIN_NUMBERS - 1)) {
            throw new IllegalArgumentException();
        }
        return survey.grainNumber(grain, what);
    }

    public int metal(int what) throws IllegalArgumentException {
        if (!isWithin(what, 0, METAL_NUMBERS - 1)) {
            throw new IllegalArgumentException();
        }
        survey.look(piece);
        return survey.metalNumber(what);
    }

    public int change(int cell, int neighbour) throws IndexOutOfBoundsException {
        if (!shape.holds(cell) || !isWithin(neighbour, 0, shape.besideMany(cell) - 1)) {
            throw new IndexOutOfBoundsException();
        }
        return piece.changeBy(cell, shape.beside(cell, neighbour));
    }

    public int texture(int mark) throws IllegalArgumentException {
        if (!isWithin(mark, 1, MARKS)) {
            throw new IllegalArgumentException();
        }
        survey.look(piece);
        return survey.textureOf(mark);
    }

    public int wall(int one, int other) throws IllegalArgumentException {
        if (!areTwoMarks(one, other)) {
            throw new IllegalArgumentException();
        }
        survey.look(piece);
        return survey.wallBetween(one, other);
    }

    public int line(int line, boolean isSeen) throws IndexOutOfBoundsException {
        if (!isWithin(line, 0, shape.lines() - 1)) {
            throw new IndexOutOfBoundsException();
        }
        survey.look(piece);
        return isSeen ? survey.cutsOf(line) : shape.lineCells(line);
    }

    public int sided(int many) throws IllegalArgumentException {
        if (many < 0) {
            throw new IllegalArgumentException();
        }
        survey.look(piece);
        return survey.grainsBordering(many);
    }

    public String picture() {
        survey.look(piece);
        return survey.drawnPicture(false);
    }

    public String etched() {
        survey.look(piece);
        return survey.drawnPicture(true);
    }

    // ---- what would be (nothing is changed)

    public int wouldHeat(int heat, int sweeps, int what) throws IllegalArgumentException {
        if (!isWithin(heat, 0, MOST_HEAT) || !isWithin(sweeps, 1, MOST_WOULD_SWEEPS)
                || !isWithin(what, 0, METAL_NUMBERS - 1)) {
            throw new IllegalArgumentException();
        }
        trial.become(piece);
        trial.sweepOften(heat, sweeps);
        survey.look(trial);
        return survey.metalNumber(what);
    }

    public int best(int aim, boolean isSize) throws IllegalArgumentException {
        if (!isWithin(aim, 0, MOST_AIM)) {
            throw new IllegalArgumentException();
        }
        oven.search(piece, aim);
        return isSize ? oven.bestSize() : oven.bestProgramme();
    }

    public int least(int cells, boolean isEnergy) throws IllegalArgumentException {
        if (!choice.isAllowed(piece, cells)) {
            throw new IllegalArgumentException();
        }
        choice.search(piece, cells);
        return isEnergy ? choice.leastEnergy() : choice.leastMarks();
    }

    public int wouldCool(int from, int to, int many) throws IllegalArgumentException {
        if (!isCooling(from, to) || !isWithin(many, 1, MOST_CELLS)) {
            throw new IllegalArgumentException();
        }
        return piece.fewestTicks(from, to, many);
    }

    public boolean isSound() {
        survey.look(piece);
        return survey.isAllSound();
    }

    public long digest() {
        survey.look(piece);
        long sum = DIGEST_START;
        for (int what = 0; what < METAL_NUMBERS; what++) {
            sum = sum * DIGEST_FACTOR + survey.metalNumber(what);
        }
        sum = digestOfCells(sum);
        sum = digestOfGrains(sum);
        for (int mark = 1; mark <= MARKS; mark++) {
            sum = sum * DIGEST_FACTOR + survey.textureOf(mark);
        }
        for (int line = 0; line < shape.lines(); line++) {
            sum = sum * DIGEST_FACTOR + survey.cutsOf(line);
        }
        for (int many = 0; many < SIDED_NUMBERS; many++) {
            sum = sum * DIGEST_FACTOR + survey.grainsBordering(many);
        }
        sum = sum * DIGEST_FACTOR + piece.nextOfRow();
        return sum * DIGEST_FACTOR + (survey.isAllSound() ? 1 : 0);
    }

    private long digestOfCells(long before) {
        long sum = before;
        for (int cell = 0; cell < shape.cells(); cell++) {
            for (int what = 0; what < CELL_NUMBERS; what++) {
                sum = sum * DIGEST_FACTOR + survey.cellNumber(cell, what);
            }
        }
        return sum;
    }

    private long digestOfGrains(long before) {
        long sum = before;
        for (int grain = 0; grain < survey.grainMany(); grain++) {
            for (int what = 0; what < GRAIN_NUMBERS; what++) {
                sum = sum * DIGEST_FACTOR + survey.grainNumber(grain, what);
            }
        }
        return sum;
    }

    private static boolean isWithin(int number, int least, int most) {
        return number >= least && number <= most;
    }

    private static boolean areTwoMarks(int one, int other) {
        return isWithin(one, 1, MARKS) && isWithin(other, 1, MARKS) && one != other;
    }

    private static boolean isCooling(int from, int to) {
        return isWithin(from, 0, DEGREES - 1) && isWithin(to, 0, from);
    }

    private static boolean isProgramme(int programme) {
        if (!isWithin(programme, 0, MOST_PROGRAMME)) {
            return false;
        }
        boolean isBegun = false;
        // The divisor ends at 0, behind the last digit.
        for (int place = FIRST_PLACE; place > 0; place /= DIGITS) {
            boolean isStep = programme / place % DIGITS > 0;
            if (isBegun && !isStep) {
                return false;
            }
            isBegun = isBegun || isStep;
        }
        return true;
    }

    /** The form of the LATTICE: its sides, its LINES, and which CELLS are NEIGHBOURS. */
    private static final class Shape {
        private int wide;
        private int high;
        private int cells;
        private final int[] besides = new int[MOST_CELLS * MOST_BESIDE];
        private final int[] manyBeside = new int[MOST_CELLS];

        void layOut(int newWide, int newHigh) {
            wide = newWide;
            high = newHigh;
            cells = Math.min(wide * high, MOST_CELLS);
            Arrays.fill(manyBeside, 0);
            for (int row = 0; row < high; row++) {
                for (int column = 0; column < wide; column++) {
                    layCell(row, column);
                }
            }
        }

        private void layCell(int row, int column) {
            int cell = row * wide + column;
            if (row > 0) {
                addBeside(cell, cell - wide);
            }
            if (column < wide - 1) {
                addBeside(cell, cell + 1);
            }
            if (row < high - 1) {
                addBeside(cell, cell + wide);
            }
            if (column > 0) {
                addBeside(cell, cell - 1);
            }
        }

        private void addBeside(int cell, int other) {
            if (!holds(cell) || !holds(other) || manyBeside[cell] >= MOST_BESIDE) {
                return;
            }
            besides[cell * MOST_BESIDE + manyBeside[cell]] = other;
            manyBeside[cell]++;
        }

        /** As cells is 64 at most, an index that this allows fits each row of 64. */
        boolean holds(int cell) {
            return cell >= 0 && cell < cells;
        }

        int wide() {
            return wide;
        }

        int high() {
            return high;
        }

        int cells() {
            return cells;
        }

        int besideMany(int cell) {
            return cell >= 0 && cell < cells ? manyBeside[cell] : 0;
        }

        int beside(int cell, int which) {
            if (cell < 0 || cell >= cells || which < 0 || which >= manyBeside[cell]) {
                return NONE;
            }
            return besides[cell * MOST_BESIDE + which];
        }

        int lines() {
            return wide + high;
        }

        int lineCells(int line) {
            return line < high ? wide : high;
        }

        /** The CELL of a LINE: rows are first, columns behind them. */
        int lineCell(int line, int which) {
            return line < high ? line * wide + which : which * wide + line - high;
        }
    }

    /** What is told of the metal and stays with a new LATTICE: MISFITS, ETCH, and the CURVE. */
    private static final class Rules {
        private final int[] misfits = new int[(MARKS + 1) * (MARKS + 1)];
        private final int[] times = new int[DEGREES];
        private int etch = ALL_SEEN;

        Rules() {
            Arrays.fill(times, FIRST_TIME);
            Arrays.fill(misfits, 1);
            for (int mark = 0; mark <= MARKS; mark++) {
                putMisfit(mark, mark, 0);
                putMisfit(mark, PARTICLE, 0);
            }
        }

        /** The row has a place for each pair of 0 (a PARTICLE) to 9. */
        int misfitOf(int one, int other) {
            if (one < 0 || one > MARKS || other < 0 || other > MARKS) {
                return 0;
            }
            return misfits[one * (MARKS + 1) + other];
        }

        void putMisfit(int one, int other, int misfit) {
            if (one < 0 || one > MARKS || other < 0 || other > MARKS) {
                return;
            }
            misfits[one * (MARKS + 1) + other] = misfit;
            misfits[other * (MARKS + 1) + one] = misfit;
        }

        int etchNow() {
            return etch;
        }

        void putEtch(int newEtch) {
            etch = newEtch;
        }

        int timeAt(int degree) {
            return degree >= 0 && degree < DEGREES ? times[degree] : FIRST_TIME;
        }

        void putTime(int degree, int time) {
            if (degree >= 0 && degree < DEGREES) {
                times[degree] = time;
            }
        }

        /** What a TICK at a DEGREE adds to the SUM. */
        int tickAt(int degree) {
            int time = timeAt(degree);
            return time > 0 ? FULL_SUM / time : 0;
        }

        boolean isSeen(int one, int other, int byEtch) {
            if (one == PARTICLE || other == PARTICLE) {
                return one != other;
            }
            return one != other && misfitOf(one, other) >= byEtch;
        }
    }

    /** The CELLS and the ROW: what heat, rolls and cooling change. */
    private static final class Piece {
        private final Shape shape;
        private final Rules rules;
        private final int[] marks = new int[MOST_CELLS];
        private final int[] works = new int[MOST_CELLS];
        private final int[] hards = new int[MOST_CELLS];
        private int next = FIRST_OF_ROW;
        private int drawn = 0;

        Piece(Shape shape, Rules rules) {
            this.shape = shape;
            this.rules = rules;
        }

        void become(Piece other) {
            System.arraycopy(other.marks, 0, marks, 0, MOST_CELLS);
            System.arraycopy(other.works, 0, works, 0, MOST_CELLS);
            System.arraycopy(other.hards, 0, hards, 0, MOST_CELLS);
            next = other.next;
            drawn = other.drawn;
        }

        void castAnew(int fromMarks) {
            Arrays.fill(works, 0);
            Arrays.fill(hards, 0);
            for (int cell = 0; cell < shape.cells(); cell++) {
                putMark(cell, 1 + drawBelow(fromMarks));
            }
        }

        void beginRow(int first) {
            next = first;
        }

        int drawnEver() {
            return drawn;
        }

        int nextOfRow() {
            return next;
        }

        private int drawBelow(int bound) {
            int number = next;
            next = (ROW_FACTOR * next + ROW_ADDEND) % ROW_MODULUS;
            drawn++;
            return bound > 0 ? number % bound : 0;
        }

        int markAt(int cell) {
            return cell >= 0 && cell < MOST_CELLS ? marks[cell] : PARTICLE;
        }

        int workAt(int cell) {
            return cell >= 0 && cell < MOST_CELLS ? works[cell] : 0;
        }

        int hardAt(int cell) {
            return cell >= 0 && cell < MOST_CELLS ? hards[cell] : 0;
        }

        void putMark(int cell, int mark) {
            if (cell >= 0 && cell < MOST_CELLS) {
                marks[cell] = mark;
            }
        }

        void putWork(int cell, int work) {
            if (cell >= 0 && cell < MOST_CELLS) {
                works[cell] = work;
            }
        }

        void putHard(int cell, int hard) {
            if (cell >= 0 && cell < MOST_CELLS) {
                hards[cell] = hard;
            }
        }

        int particles() {
            int many = 0;
            for (int cell = 0; cell < shape.cells(); cell++) {
                if (markAt(cell) == PARTICLE) {
                    many++;
                }
            }
            return many;
        }

        int hardCells() {
            int many = 0;
            for (int cell = 0; cell < shape.cells(); cell++) {
                many += hardAt(cell);
            }
            return many;
        }

        int allWork() {
            int sum = 0;
            for (int cell = 0; cell < shape.cells(); cell++) {
                sum += workAt(cell);
            }
            return sum;
        }

        int misfitAround(int cell) {
            int sum = 0;
            for (int which = 0; which < shape.besideMany(cell); which++) {
                sum += rules.misfitOf(markAt(cell), markAt(shape.beside(cell, which)));
            }
            return sum;
        }

        int energy() {
            // Each pair is met from both of its CELLS.
            int twice = 0;
            for (int cell = 0; cell < shape.cells(); cell++) {
                twice += misfitAround(cell);
            }
            return twice / 2 + 2 * allWork();
        }

        int changeBy(int cell, int other) {
            int old = markAt(cell);
            int mark = markAt(other);
            if (old == PARTICLE || mark == PARTICLE) {
                return 0;
            }
            int change = workAt(other) == 0 ? -2 * workAt(cell) : 0;
            for (int which = 0; which < shape.besideMany(cell); which++) {
                int beside = markAt(shape.beside(cell, which));
                change += rules.misfitOf(mark, beside) - rules.misfitOf(old, beside);
            }
            return change;
        }

        int sweepOften(int heat, int sweeps) {
            int taken = 0;
            for (int sweep = 0; sweep < sweeps; sweep++) {
                for (int turn = 0; turn < shape.cells(); turn++) {
                    taken += tryOne(heat);
                }
                if (heat >= MELTING_HEAT) {
                    meltOne();
                }
                if (heat > 0 && heat <= MOST_EASING_HEAT) {
                    easeAll();
                }
            }
            return taken;
        }

        /** One try of a SWEEP; 1 if a CELL took a MARK, otherwise 0. */
        private int tryOne(int heat) {
            int cell = drawBelow(shape.cells());
            int other = shape.beside(cell, drawBelow(shape.besideMany(cell)));
            int mark = markAt(other);
            if (mark == PARTICLE || markAt(cell) == PARTICLE || mark == markAt(cell) || hardAt(cell) == 1) {
                return 0;
            }
            int third = drawBelow(10);
            int change = changeBy(cell, other);
            if (change > 0 && 10 * change > heat * third) {
                return 0;
            }
            putMark(cell, mark);
            if (workAt(other) == 0) {
                putWork(cell, 0);
            }
            return 1;
        }

        private void meltOne() {
            for (int cell = 0; cell < shape.cells(); cell++) {
                int mark = markAt(cell) == PARTICLE ? firstMarkBeside(cell) : PARTICLE;
                if (mark != PARTICLE) {
                    putMark(cell, mark);
                    putWork(cell, 0);
                    return;
                }
            }
        }

        private int firstMarkBeside(int cell) {
            for (int which = 0; which < shape.besideMany(cell); which++) {
                int mark = markAt(shape.beside(cell, which));
                if (mark != PARTICLE) {
                    return mark;
                }
            }
            return PARTICLE;
        }

        private void easeAll() {
            for (int cell = 0; cell < shape.cells(); cell++) {
                putWork(cell, Math.max(0, workAt(cell) - 1));
            }
        }

        void rollOnce() {
            for (int cell = 0; cell < shape.cells(); cell++) {
                int mark = markAt(cell);
                if (mark == PARTICLE || hardAt(cell) == 1) {
                    continue;
                }
                int work = Math.min(MOST_WORK, workAt(cell) + 1 + mark % 3);
                putWork(cell, work);
                if (work > TURNING_WORK) {
                    putMark(cell, mark == MARKS ? 1 : mark + 1);
                }
            }
        }

        int bear(int bar) {
            int many = 0;
            for (int cell = 0; cell < shape.cells(); cell++) {
                if (isBearing(cell, bar)) {
                    putMark(cell, 1 + drawBelow(MARKS));
                    putWork(cell, 0);
                    many++;
                }
            }
            return many;
        }

        private boolean isBearing(int cell, int bar) {
            int mark = markAt(cell);
            if (mark == PARTICLE || hardAt(cell) == 1 || workAt(cell) < bar) {
                return false;
            }
            int others = 0;
            for (int which = 0; which < shape.besideMany(cell); which++) {
                if (markAt(shape.beside(cell, which)) != mark) {
                    others++;
                }
            }
            return others >= 2;
        }

        int coolDown(int from, int to, int ticks) {
            int hardened = 0;
            int sum = 0;
            for (int degree = from; degree >= to; degree--) {
                int more = rules.tickAt(degree);
                for (int tick = 0; tick < ticks; tick++) {
                    sum += more;
                    for (; sum >= FULL_SUM; sum -= FULL_SUM) {
                        hardened += hardenOne();
                    }
                }
            }
            return hardened;
        }

        /** Every TICK's rest stays in the SUM, so that how many TICKS there are in all settles it. */
        int fewestTicks(int from, int to, int many) {
            int sum = 0;
            for (int degree = from; degree >= to; degree--) {
                sum += rules.tickAt(degree);
            }
            int left = shape.cells() - particles() - hardCells();
            for (int ticks = 1; ticks <= MOST_TICKS; ticks++) {
                if (Math.min(left, sum * ticks / FULL_SUM) >= many) {
                    return ticks;
                }
            }
            return NONE;
        }

        /** Makes the CELL with the greatest WORK HARD; 0 if none is left for it. */
        private int hardenOne() {
            int worst = NONE;
            for (int cell = 0; cell < shape.cells(); cell++) {
                boolean isOpen = markAt(cell) != PARTICLE && hardAt(cell) == 0;
                if (isOpen && (worst == NONE || workAt(cell) > workAt(worst))) {
                    worst = cell;
                }
            }
            putHard(worst, 1);
            return worst == NONE ? 0 : 1;
        }

        int loosenAll() {
            int many = hardCells();
            Arrays.fill(hards, 0);
            return many;
        }

        /** Does a STEP of a PROGRAMME; what is none (as the one of a digit 0) does nothing. */
        void doStep(int step) {
            switch (step) {
                case HOLD:
                    sweepOften(2, 2);
                    break;
                case SOAK:
                    sweepOften(6, 2);
                    break;
                case MELT:
                    sweepOften(9, 1);
                    break;
                case ROLL:
                    rollOnce();
                    break;
                case BEAR:
                    bear(BEARING_BAR);
                    break;
                default:
                    break;
            }
        }
    }

    /** The GRAINS of a piece by an ETCH: by ALL_SEEN the true ones, otherwise the SEEN ones. */
    private static final class Grains {
        private final Shape shape;
        private final Rules rules;
        private final int[] grainOf = new int[MOST_CELLS];
        private final int[] firsts = new int[MOST_CELLS];
        private final int[] sizes = new int[MOST_CELLS];
        private final int[] leastMarks = new int[MOST_CELLS];
        private final int[] reached = new int[MOST_CELLS];
        private int many = 0;

        Grains(Shape shape, Rules rules) {
            this.shape = shape;
            this.rules = rules;
        }

        void gather(Piece piece, int etch) {
            many = 0;
            Arrays.fill(grainOf, NONE);
            for (int cell = 0; cell < shape.cells(); cell++) {
                if (piece.markAt(cell) != PARTICLE && at(cell) == NONE) {
                    spread(piece, cell, etch);
                }
            }
        }

        /** Each CELL is reached once, so that as many as there are CELLS are the most. */
        private void spread(Piece piece, int first, int etch) {
            if (!shape.holds(first) || !shape.holds(many)) {
                return;
            }
            grainOf[first] = many;
            firsts[many] = first;
            leastMarks[many] = piece.markAt(first);
            reached[0] = first;
            int filled = 1;
            for (int from = 0; from < filled && from < MOST_CELLS; from++) {
                int cell = reached[from];
                int mark = piece.markAt(cell);
                leastMarks[many] = Math.min(leastMarks[many], mark);
                for (int which = 0; which < shape.besideMany(cell); which++) {
                    int other = shape.beside(cell, which);
                    if (isNew(piece, other) && !rules.isSeen(mark, piece.markAt(other), etch) && filled < MOST_CELLS) {
                        grainOf[other] = many;
                        reached[filled] = other;
                        filled++;
                    }
                }
            }
            sizes[many] = filled;
            many++;
        }

        private boolean isNew(Piece piece, int cell) {
            return shape.holds(cell) && grainOf[cell] == NONE && piece.markAt(cell) != PARTICLE;
        }

        int many() {
            return many;
        }

        int at(int cell) {
            return shape.holds(cell) ? grainOf[cell] : NONE;
        }

        private boolean hasGrain(int grain) {
            return grain >= 0 && grain < many && grain < MOST_CELLS;
        }

        int firstOf(int grain) {
            return hasGrain(grain) ? firsts[grain] : NONE;
        }

        int sizeOf(int grain) {
            return hasGrain(grain) ? sizes[grain] : 0;
        }

        int leastMarkOf(int grain) {
            return hasGrain(grain) ? leastMarks[grain] : PARTICLE;
        }

        int greatestSize() {
            int greatest = 0;
            for (int grain = 0; grain < many; grain++) {
                greatest = Math.max(greatest, sizeOf(grain));
            }
            return greatest;
        }

        int sizeByArea(Piece piece) {
            return many > 0 ? 100 * (shape.cells() - piece.particles()) / many : 0;
        }
    }

    /** What can be asked of a piece; look() first, and again when it has changed. */
    private static final class Survey {
        private final Shape shape;
        private final Rules rules;
        private final Grains grains;
        private final Grains seen;
        private final int[] met = new int[MOST_CELLS];
        private Piece piece;

        Survey(Shape shape, Rules rules, Piece piece) {
            this.shape = shape;
            this.rules = rules;
            this.piece = piece;
            grains = new Grains(shape, rules);
            seen = new Grains(shape, rules);
        }

        void look(Piece at) {
            piece = at;
            grains.gather(at, ALL_SEEN);
            seen.gather(at, rules.etchNow());
        }

        int grainMany() {
            return grains.many();
        }

        int seenMany() {
            return seen.many();
        }

        int metalNumber(int what) {
            if (shape.cells() == 0) {
                return what == NUMBERS_DRAWN ? piece.drawnEver() : 0;
            }
            switch (what) {
                case 0: return piece.energy();
                case 1: return grains.many();
                case 2: return seen.many();
                case 3: return seen.sizeByArea(piece);
                case 4: return sizeByLines();
                case 5: return sizeByChart();
                case 6: return grains.sizeByArea(piece) - seen.sizeByArea(piece);
                case 7: return junctions();
                case 8: return strength();
                case 9: return allCuts();
                case 10: return piece.particles();
                case 11: return piece.hardCells();
                case 12: return piece.allWork();
                case 13: return shape.cells();
                case NUMBERS_DRAWN: return piece.drawnEver();
                case 15: return grains.greatestSize();
                default: return 0;
            }
        }

        int sizeByArea() {
            return seen.sizeByArea(piece);
        }

        private int sizeByLines() {
            int parts = allCuts() + shape.lines();
            return parts > 0 ? 100 * 2 * shape.cells() / parts : 0;
        }

        private int sizeByChart() {
            int power = 0;
            for (int count = 1; count < seen.many() && count < MOST_CELLS; count *= 2) {
                power++;
            }
            return power;
        }

        private int strength() {
            int cells = shape.cells();
            int ofCuts = cells > 0 ? 100 * allCuts() / cells : 0;
            return 20 + ofCuts + 4 * piece.particles() + 3 * piece.hardCells() + piece.allWork() / 2;
        }

        int cutsOf(int line) {
            int cuts = 0;
            for (int which = 1; which < shape.lineCells(line); which++) {
                int before = piece.markAt(shape.lineCell(line, which - 1));
                if (rules.isSeen(before, piece.markAt(shape.lineCell(line, which)), rules.etchNow())) {
                    cuts++;
                }
            }
            return cuts;
        }

        private int allCuts() {
            int cuts = 0;
            for (int line = 0; line < shape.lines(); line++) {
                cuts += cutsOf(line);
            }
            return cuts;
        }

        private int junctions() {
            int many = 0;
            for (int row = 1; row < shape.high(); row++) {
                for (int column = 1; column < shape.wide(); column++) {
                    if (Integer.bitCount(marksOfSquare(row * shape.wide() + column)) >= 3) {
                        many++;
                    }
                }
            }
            return many;
        }

        /** The set of MARKS in the square whose last CELL this is. */
        private int marksOfSquare(int last) {
            int above = last - shape.wide();
            int set = 1 << piece.markAt(last) | 1 << piece.markAt(last - 1)
                    | 1 << piece.markAt(above) | 1 << piece.markAt(above - 1);
            return set & ~(1 << PARTICLE);
        }

        int cellNumber(int cell, int what) {
            switch (what) {
                case 0: return piece.markAt(cell);
                case 1: return piece.workAt(cell);
                case 2: return piece.hardAt(cell);
                case 3: return othersBeside(cell);
                case 4: return grains.at(cell);
                case 5: return piece.misfitAround(cell);
                default: return 0;
            }
        }

        private int othersBeside(int cell) {
            int many = 0;
            for (int which = 0; which < shape.besideMany(cell); which++) {
                int mark = piece.markAt(shape.beside(cell, which));
                if (mark != PARTICLE && mark != piece.markAt(cell)) {
                    many++;
                }
            }
            return many;
        }

        int grainNumber(int grain, int what) {
            switch (what) {
                case 0: return piece.markAt(grains.firstOf(grain));
                case 1: return grains.sizeOf(grain);
                case 2: return roundOf(grain);
                case 3: return bordersOf(grain);
                case 4: return grains.firstOf(grain);
                case 5: return workOf(grain);
                case 6: return hardOf(grain);
                default: return 0;
            }
        }

        private int roundOf(int grain) {
            int pairs = 0;
            for (int cell = 0; cell < shape.cells(); cell++) {
                for (int which = 0; which < shape.besideMany(cell); which++) {
                    if (grains.at(cell) == grain && grains.at(shape.beside(cell, which)) != grain) {
                        pairs++;
                    }
                }
            }
            return pairs;
        }

        private int bordersOf(int grain) {
            Arrays.fill(met, 0);
            int many = 0;
            for (int cell = 0; cell < shape.cells(); cell++) {
                if (grains.at(cell) != grain) {
                    continue;
                }
                for (int which = 0; which < shape.besideMany(cell); which++) {
                    int other = grains.at(shape.beside(cell, which));
                    if (other >= 0 && other < MOST_CELLS && other != grain && met[other] == 0) {
                        met[other] = 1;
                        many++;
                    }
                }
            }
            return many;
        }

        private int workOf(int grain) {
            int sum = 0;
            for (int cell = 0; cell < shape.cells(); cell++) {
                sum += grains.at(cell) == grain ? piece.workAt(cell) : 0;
            }
            return sum;
        }

        private int hardOf(int grain) {
            int many = 0;
            for (int cell = 0; cell < shape.cells(); cell++) {
                many += grains.at(cell) == grain ? piece.hardAt(cell) : 0;
            }
            return many;
        }

        int grainsBordering(int many) {
            int found = 0;
            for (int grain = 0; grain < grains.many(); grain++) {
                if (bordersOf(grain) == many) {
                    found++;
                }
            }
            return found;
        }

        int textureOf(int mark) {
            int many = 0;
            for (int cell = 0; cell < shape.cells(); cell++) {
                if (piece.markAt(cell) == mark) {
                    many++;
                }
            }
            return shape.cells() > 0 ? 1000 * many / shape.cells() : 0;
        }

        int wallBetween(int one, int other) {
            int pairs = 0;
            for (int cell = 0; cell < shape.cells(); cell++) {
                for (int which = 0; which < shape.besideMany(cell); which++) {
                    if (piece.markAt(cell) == one && piece.markAt(shape.beside(cell, which)) == other) {
                        pairs++;
                    }
                }
            }
            return pairs;
        }

        String drawnPicture(boolean isEtched) {
            StringBuilder text = new StringBuilder();
            for (int row = 0; row < shape.high(); row++) {
                if (row > 0) {
                    text.append('/');
                }
                for (int column = 0; column < shape.wide(); column++) {
                    text.append(signOf(row * shape.wide() + column, isEtched));
                }
            }
            if (text.length() == 0) {
                text.append('-');
            }
            return text.toString();
        }

        private char signOf(int cell, boolean isEtched) {
            int mark = piece.markAt(cell);
            if (mark == PARTICLE) {
                return '*';
            }
            if (isEtched && piece.hardAt(cell) == 1) {
                return '#';
            }
            return (char) ('0' + (isEtched ? seen.leastMarkOf(seen.at(cell)) : mark));
        }

        boolean isAllSound() {
            int held = piece.particles();
            for (int grain = 0; grain < grains.many(); grain++) {
                held += grains.sizeOf(grain);
            }
            return held == shape.cells() && seen.many() <= grains.many() && areCellsSound()
                    && piece.energy() >= 0 && allCuts() == seenPairs();
        }

        private boolean areCellsSound() {
            for (int cell = 0; cell < shape.cells(); cell++) {
                int work = piece.workAt(cell);
                boolean isBare = work == 0 && piece.hardAt(cell) == 0;
                if (!isWithin(work, 0, MOST_WORK) || piece.markAt(cell) == PARTICLE && !isBare) {
                    return false;
                }
            }
            return true;
        }

        private int seenPairs() {
            // Each pair is met from both of its CELLS.
            int twice = 0;
            for (int cell = 0; cell < shape.cells(); cell++) {
                int mark = piece.markAt(cell);
                for (int which = 0; which < shape.besideMany(cell); which++) {
                    if (rules.isSeen(mark, piece.markAt(shape.beside(cell, which)), rules.etchNow())) {
                        twice++;
                    }
                }
            }
            return twice / 2;
        }
    }

    /** The search for the BEST PROGRAMME: all of them, each begun where a shorter one has ended. */
    private static final class Furnace {
        private final Rules rules;
        private final Grains seen;
        private final Piece first;
        private final Piece second;
        private final Piece third;
        private int aim = 0;
        private int programme = NONE;
        private int size = 0;

        Furnace(Shape shape, Rules rules, Piece trial) {
            this.rules = rules;
            seen = new Grains(shape, rules);
            first = trial;
            second = new Piece(shape, rules);
            third = new Piece(shape, rules);
        }

        int bestProgramme() {
            return programme;
        }

        int bestSize() {
            return size;
        }

        void search(Piece piece, int newAim) {
            aim = newAim;
            programme = NONE;
            weigh(piece, 0);
            for (int one = 1; one <= STEPS; one++) {
                first.become(piece);
                first.doStep(one - 1);
                weigh(first, one);
                for (int two = 1; two <= STEPS; two++) {
                    int both = one * DIGITS + two;
                    second.become(first);
                    second.doStep(two - 1);
                    weigh(second, both);
                    for (int three = 1; three <= STEPS; three++) {
                        third.become(second);
                        third.doStep(three - 1);
                        weigh(third, both * DIGITS + three);
                    }
                }
            }
        }

        /** A smaller number never has more STEPS: so the number alone settles what is equally near. */
        private void weigh(Piece piece, int number) {
            seen.gather(piece, rules.etchNow());
            int newSize = seen.sizeByArea(piece);
            int far = Math.abs(newSize - aim);
            int bestFar = Math.abs(size - aim);
            if (programme == NONE || far < bestFar || far == bestFar && number < programme) {
                programme = number;
                size = newSize;
            }
        }
    }

    /** The search for the MARKS of a few chosen CELLS by which ENERGY is the least. */
    private static final class Choice {
        private final Shape shape;
        private final Rules rules;
        private final Piece trial;
        private final int[] chosen = new int[MOST_CHOSEN];
        private final int[] offered = new int[MARKS];
        private int chosenMany = 0;
        private int offeredMany = 0;
        private int energy = 0;
        private int marks = 0;

        Choice(Shape shape, Rules rules, Piece trial) {
            this.shape = shape;
            this.rules = rules;
            this.trial = trial;
        }

        int leastEnergy() {
            return energy;
        }

        int leastMarks() {
            return marks;
        }

        boolean isAllowed(Piece piece, int cells) {
            if (cells <= 0 || Integer.bitCount(cells) > MOST_CHOSEN) {
                return false;
            }
            for (int bit = 0; bit < BITS_OF_SET; bit++) {
                if ((cells >> bit & 1) == 0) {
                    continue;
                }
                boolean isCell = bit < CHOOSABLE_CELLS && shape.holds(bit);
                if (!isCell || piece.markAt(bit) == PARTICLE || piece.hardAt(bit) == 1) {
                    return false;
                }
            }
            return true;
        }

        void search(Piece piece, int cells) {
            trial.become(piece);
            chooseCells(cells);
            offerMarks();
            int elsewhere = trial.energy() - misfitOfChosen(cells);
            int ways = 1;
            for (int place = 0; place < chosenMany; place++) {
                ways *= offeredMany;
            }
            marks = NONE;
            for (int way = 0; way < ways; way++) {
                int number = takeWay(way);
                int would = elsewhere + misfitOfChosen(cells);
                if (marks == NONE || would < energy) {
                    marks = number;
                    energy = would;
                }
            }
        }

        private void chooseCells(int cells) {
            chosenMany = 0;
            for (int cell = 0; cell < CHOOSABLE_CELLS; cell++) {
                if ((cells >> cell & 1) == 1 && chosenMany < MOST_CHOSEN) {
                    chosen[chosenMany] = cell;
                    chosenMany++;
                }
            }
        }

        private void offerMarks() {
            int set = 0;
            for (int cell = 0; cell < shape.cells(); cell++) {
                set |= 1 << trial.markAt(cell);
            }
            offeredMany = 0;
            for (int mark = 1; mark <= MARKS; mark++) {
                if ((set >> mark & 1) == 1 && offeredMany < MARKS) {
                    offered[offeredMany] = mark;
                    offeredMany++;
                }
            }
        }

        /** Gives the chosen CELLS the MARKS of a way; later ways have greater numbers. */
        private int takeWay(int way) {
            int number = 0;
            int worth = 1;
            int rest = way;
            for (int place = Math.min(chosenMany, MOST_CHOSEN) - 1; place >= 0 && offeredMany > 0; place--) {
                int pick = rest % offeredMany;
                int mark = pick >= 0 && pick < MARKS ? offered[pick] : PARTICLE;
                trial.putMark(chosen[place], mark);
                number += mark * worth;
                worth *= 10;
                rest /= offeredMany;
            }
            return number;
        }

        /** MISFIT of all pairs with a chosen CELL; one of two chosen CELLS is told by the first of them. */
        private int misfitOfChosen(int cells) {
            int sum = 0;
            for (int place = 0; place < chosenMany && place < MOST_CHOSEN; place++) {
                int cell = chosen[place];
                int mark = trial.markAt(cell);
                for (int which = 0; which < shape.besideMany(cell); which++) {
                    int other = shape.beside(cell, which);
                    boolean isChosen = other >= 0 && other < CHOOSABLE_CELLS && (cells >> other & 1) == 1;
                    if (!isChosen || other > cell) {
                        sum += rules.misfitOf(mark, trial.markAt(other));
                    }
                }
            }
            return sum;
        }
    }
}
