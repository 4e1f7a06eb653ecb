import java.util.ArrayList;
import java.util.Arrays;
import java.util.HashSet;
import java.util.List;
import java.util.Set;
import java.util.TreeSet;

/**
 * The document's words once more, in the slowest form: a grid of rows and columns, ENERGY always counted whole,
 * programmes always done from their first STEP on. ModelTest holds the class against it.
 */
public final class Model {
    private int wide;
    private int high;
    private int[][] mark = new int[0][0];
    private int[][] work = new int[0][0];
    private boolean[][] hard = new boolean[0][0];
    private int next = 7;
    private int drawn;
    private int[][] misfit = new int[10][10];
    private int etch = 1;
    private int[] time = new int[10];

    public Model() {
        for (int one = 1; one <= 9; one++) {
            for (int other = 1; other <= 9; other++) {
                misfit[one][other] = one == other ? 0 : 1;
            }
        }
        Arrays.fill(time, 50);
    }

    private Model copy() {
        Model m = new Model();
        m.wide = wide;
        m.high = high;
        m.mark = new int[high][];
        m.work = new int[high][];
        m.hard = new boolean[high][];
        for (int r = 0; r < high; r++) {
            m.mark[r] = mark[r].clone();
            m.work[r] = work[r].clone();
            m.hard[r] = hard[r].clone();
        }
        m.next = next;
        m.drawn = drawn;
        m.misfit = misfit;
        m.etch = etch;
        m.time = time;
        return m;
    }

    private static void legal(boolean is) {
        if (!is) {
            throw new IllegalArgumentException();
        }
    }

    private static void inside(boolean is) {
        if (!is) {
            throw new IndexOutOfBoundsException();
        }
    }

    private int draw() {
        int number = next;
        next = (17 * number + 23) % 8191;
        drawn++;
        return number;
    }

    private int cells() {
        return wide * high;
    }

    private List<int[]> neighbours(int r, int c) {
        List<int[]> all = new ArrayList<>();
        int[][] ways = {{-1, 0}, {0, 1}, {1, 0}, {0, -1}};
        for (int[] way : ways) {
            int row = r + way[0];
            int column = c + way[1];
            if (row >= 0 && row < high && column >= 0 && column < wide) {
                all.add(new int[] {row, column});
            }
        }
        return all;
    }

    /** Each pair once: {row, column, row, column}, those along rows first. */
    private List<int[]> pairs() {
        List<int[]> all = new ArrayList<>();
        for (int r = 0; r < high; r++) {
            for (int c = 1; c < wide; c++) {
                all.add(new int[] {r, c - 1, r, c});
            }
        }
        for (int c = 0; c < wide; c++) {
            for (int r = 1; r < high; r++) {
                all.add(new int[] {r - 1, c, r, c});
            }
        }
        return all;
    }

    private int energy() {
        int sum = 2 * metalWork();
        for (int[] p : pairs()) {
            sum += misfit[mark[p[0]][p[1]]][mark[p[2]][p[3]]];
        }
        return sum;
    }

    private int metalWork() {
        int sum = 0;
        for (int[] row : work) {
            sum += Arrays.stream(row).sum();
        }
        return sum;
    }

    private boolean seenPair(int a, int b, int byEtch) {
        if (a == b) {
            return false;
        }
        return a == 0 || b == 0 || misfit[a][b] >= byEtch;
    }

    private void fill(int[][] label, int r, int c, int name, int byEtch) {
        if (label[r][c] != -1 || mark[r][c] == 0) {
            return;
        }
        label[r][c] = name;
        for (int[] n : neighbours(r, c)) {
            if (mark[n[0]][n[1]] != 0 && !seenPair(mark[r][c], mark[n[0]][n[1]], byEtch)) {
                fill(label, n[0], n[1], name, byEtch);
            }
        }
    }

    private int[][] labels(int byEtch) {
        int[][] label = new int[high][wide];
        for (int[] row : label) {
            Arrays.fill(row, -1);
        }
        int name = 0;
        for (int r = 0; r < high; r++) {
            for (int c = 0; c < wide; c++) {
                if (label[r][c] == -1 && mark[r][c] != 0) {
                    fill(label, r, c, name, byEtch);
                    name++;
                }
            }
        }
        return label;
    }

    private int grains(int byEtch) {
        return Arrays.stream(labels(byEtch)).flatMapToInt(Arrays::stream).max().orElse(-1) + 1;
    }

    private int area(int byEtch) {
        int many = grains(byEtch);
        return many == 0 ? 0 : 100 * (cells() - particles()) / many;
    }

    private int particles() {
        return (int) Arrays.stream(mark).flatMapToInt(Arrays::stream).filter(m -> m == 0).count();
    }

    private int hards() {
        int many = 0;
        for (boolean[] row : hard) {
            for (boolean is : row) {
                many += is ? 1 : 0;
            }
        }
        return many;
    }

    public int lattice(int w, int h, int marks) {
        legal(w >= 2 && w <= 8 && h >= 2 && h <= 8 && marks >= 1 && marks <= 9);
        wide = w;
        high = h;
        mark = new int[h][w];
        work = new int[h][w];
        hard = new boolean[h][w];
        for (int r = 0; r < h; r++) {
            for (int c = 0; c < w; c++) {
                mark[r][c] = 1 + draw() % marks;
            }
        }
        return grains(1);
    }

    public int seed(int seed) {
        legal(seed >= 0 && seed <= 999);
        next = seed;
        return drawn;
    }

    public int mark(int cell, int m) {
        inside(cell >= 0 && cell < cells());
        legal(m >= 1 && m <= 9);
        int before = mark[cell / wide][cell % wide];
        mark[cell / wide][cell % wide] = m;
        return before;
    }

    public int pin(int cell) {
        inside(cell >= 0 && cell < cells());
        if (mark[cell / wide][cell % wide] == 0) {
            throw new IllegalStateException();
        }
        mark[cell / wide][cell % wide] = 0;
        work[cell / wide][cell % wide] = 0;
        hard[cell / wide][cell % wide] = false;
        return particles();
    }

    public int work(int cell, int w) {
        inside(cell >= 0 && cell < cells());
        legal(w >= 0 && w <= 20);
        if (mark[cell / wide][cell % wide] == 0 && w != 0) {
            throw new IllegalStateException();
        }
        int before = work[cell / wide][cell % wide];
        work[cell / wide][cell % wide] = w;
        return before;
    }

    public int misfit(int one, int other, int m) {
        legal(one >= 1 && one <= 9 && other >= 1 && other <= 9 && one != other && m >= 1 && m <= 9);
        int before = misfit[one][other];
        misfit[one][other] = m;
        misfit[other][one] = m;
        return before;
    }

    public int etch(int e) {
        legal(e >= 1 && e <= 9);
        etch = e;
        return grains(etch);
    }

    public int heat(int heat, int sweeps) {
        legal(heat >= 0 && heat <= 9 && sweeps >= 1 && sweeps <= 12);
        int taken = 0;
        for (int s = 0; s < sweeps; s++) {
            for (int t = 0; t < cells(); t++) {
                taken += tryTake(heat) ? 1 : 0;
            }
            if (heat == 8 || heat == 9) {
                melt();
            }
            if (heat >= 1 && heat <= 4) {
                for (int[] row : work) {
                    for (int c = 0; c < wide; c++) {
                        row[c] = row[c] == 0 ? 0 : row[c] - 1;
                    }
                }
            }
        }
        return taken;
    }

    private boolean tryTake(int heat) {
        int cell = draw() % cells();
        int r = cell / wide;
        int c = cell % wide;
        List<int[]> all = neighbours(r, c);
        int which = draw() % all.size();
        int[] n = all.get(which);
        if (mark[r][c] == 0 || mark[n[0]][n[1]] == 0 || mark[r][c] == mark[n[0]][n[1]] || hard[r][c]) {
            return false;
        }
        int third = draw();
        int change = change(cell, which);
        if (change <= 0 || 10 * change <= heat * (third % 10)) {
            mark[r][c] = mark[n[0]][n[1]];
            if (work[n[0]][n[1]] == 0) {
                work[r][c] = 0;
            }
            return true;
        }
        return false;
    }

    private void melt() {
        for (int cell = 0; cell < cells(); cell++) {
            if (mark[cell / wide][cell % wide] != 0) {
                continue;
            }
            for (int[] n : neighbours(cell / wide, cell % wide)) {
                if (mark[n[0]][n[1]] != 0) {
                    mark[cell / wide][cell % wide] = mark[n[0]][n[1]];
                    work[cell / wide][cell % wide] = 0;
                    return;
                }
            }
        }
    }

    public int roll(int passes) {
        legal(passes >= 1 && passes <= 9);
        for (int p = 0; p < passes; p++) {
            for (int r = 0; r < high; r++) {
                for (int c = 0; c < wide; c++) {
                    if (mark[r][c] != 0 && !hard[r][c]) {
                        work[r][c] = Math.min(20, work[r][c] + 1 + mark[r][c] % 3);
                    }
                }
            }
            for (int r = 0; r < high; r++) {
                for (int c = 0; c < wide; c++) {
                    if (mark[r][c] != 0 && !hard[r][c] && work[r][c] > 10) {
                        mark[r][c] = mark[r][c] % 9 + 1;
                    }
                }
            }
        }
        return metalWork();
    }

    public int born(int bar) {
        legal(bar >= 1 && bar <= 20);
        int many = 0;
        for (int r = 0; r < high; r++) {
            for (int c = 0; c < wide; c++) {
                int m = mark[r][c];
                long others = neighbours(r, c).stream().filter(n -> mark[n[0]][n[1]] != m).count();
                if (m != 0 && !hard[r][c] && work[r][c] >= bar && others >= 2) {
                    mark[r][c] = 1 + draw() % 9;
                    work[r][c] = 0;
                    many++;
                }
            }
        }
        return many;
    }

    public int curve(int degree, int t) {
        legal(degree >= 0 && degree <= 9 && t >= 1 && t <= 99);
        int before = time[degree];
        time[degree] = t;
        return before;
    }

    public int cool(int from, int to, int ticks) {
        legal(from >= 0 && from <= 9 && to >= 0 && to <= from && ticks >= 1 && ticks <= 50);
        int before = hards();
        int sum = 0;
        for (int degree = from; degree >= to; degree--) {
            for (int t = 0; t < ticks; t++) {
                sum += 1000 / time[degree];
                while (sum >= 1000) {
                    harden();
                    sum -= 1000;
                }
            }
        }
        return hards() - before;
    }

    private void harden() {
        for (int w = 20; w >= 0; w--) {
            for (int r = 0; r < high; r++) {
                for (int c = 0; c < wide; c++) {
                    if (mark[r][c] != 0 && !hard[r][c] && work[r][c] == w) {
                        hard[r][c] = true;
                        return;
                    }
                }
            }
        }
    }

    public int soften() {
        int many = hards();
        hard = new boolean[high][wide];
        return many;
    }

    private static boolean isProgramme(int programme) {
        return programme >= 0 && programme <= 215 && (programme == 0 || !Integer.toString(programme, 6).contains("0"));
    }

    public int furnace(int programme) {
        legal(isProgramme(programme));
        for (char digit : Integer.toString(programme, 6).toCharArray()) {
            switch (digit) {
                case '1' -> heat(2, 2);
                case '2' -> heat(6, 2);
                case '3' -> heat(9, 1);
                case '4' -> roll(1);
                case '5' -> born(6);
                default -> { }
            }
        }
        return area(etch);
    }

    public int ofCell(int cell, int what) {
        inside(cell >= 0 && cell < cells());
        legal(what >= 0 && what <= 5);
        int r = cell / wide;
        int c = cell % wide;
        int m = mark[r][c];
        return switch (what) {
            case 0 -> m;
            case 1 -> work[r][c];
            case 2 -> hard[r][c] ? 1 : 0;
            case 3 -> (int) neighbours(r, c).stream().mapToInt(n -> mark[n[0]][n[1]])
                    .filter(o -> o != 0 && o != m).count();
            case 4 -> labels(1)[r][c];
            default -> neighbours(r, c).stream().mapToInt(n -> misfit[m][mark[n[0]][n[1]]]).sum();
        };
    }

    public int ofGrain(int grain, int what) {
        inside(grain >= 0 && grain < grains(1));
        legal(what >= 0 && what <= 6);
        int[][] label = labels(1);
        int size = 0;
        int first = -1;
        int works = 0;
        int hardOnes = 0;
        for (int cell = 0; cell < cells(); cell++) {
            if (label[cell / wide][cell % wide] == grain) {
                size++;
                first = first < 0 ? cell : first;
                works += work[cell / wide][cell % wide];
                hardOnes += hard[cell / wide][cell % wide] ? 1 : 0;
            }
        }
        int round = 0;
        for (int[] p : pairs()) {
            round += (label[p[0]][p[1]] == grain) != (label[p[2]][p[3]] == grain) ? 1 : 0;
        }
        return switch (what) {
            case 0 -> mark[first / wide][first % wide];
            case 1 -> size;
            case 2 -> round;
            case 3 -> borders(label, grain).size();
            case 4 -> first;
            case 5 -> works;
            default -> hardOnes;
        };
    }

    private Set<Integer> borders(int[][] label, int grain) {
        Set<Integer> others = new HashSet<>();
        for (int[] p : pairs()) {
            int a = label[p[0]][p[1]];
            int b = label[p[2]][p[3]];
            if (a == grain && b != grain && b != -1) {
                others.add(b);
            }
            if (b == grain && a != grain && a != -1) {
                others.add(a);
            }
        }
        return others;
    }

    public int metal(int what) {
        legal(what >= 0 && what <= 15);
        if (wide == 0) {
            return what == 14 ? drawn : 0;
        }
        return switch (what) {
            case 0 -> energy();
            case 1 -> grains(1);
            case 2 -> grains(etch);
            case 3 -> area(etch);
            case 4 -> 200 * cells() / (cuts() + wide + high);
            case 5 -> chart(grains(etch));
            case 6 -> area(1) - area(etch);
            case 7 -> junctions();
            case 8 -> 20 + 100 * cuts() / cells() + 4 * particles() + 3 * hards() + metalWork() / 2;
            case 9 -> cuts();
            case 10 -> particles();
            case 11 -> hards();
            case 12 -> metalWork();
            case 13 -> cells();
            case 14 -> drawn;
            default -> greatest();
        };
    }

    private static int chart(int many) {
        int n = 0;
        while (Math.pow(2, n) < many) {
            n++;
        }
        return n;
    }

    private int greatest() {
        int most = 0;
        for (int g = 0; g < grains(1); g++) {
            most = Math.max(most, ofGrain(g, 1));
        }
        return most;
    }

    private int cuts() {
        int many = 0;
        for (int[] p : pairs()) {
            many += seenPair(mark[p[0]][p[1]], mark[p[2]][p[3]], etch) ? 1 : 0;
        }
        return many;
    }

    private int junctions() {
        int many = 0;
        for (int r = 0; r + 1 < high; r++) {
            for (int c = 0; c + 1 < wide; c++) {
                Set<Integer> marks = new HashSet<>(List.of(mark[r][c]));
                marks.add(mark[r][c + 1]);
                marks.add(mark[r + 1][c]);
                marks.add(mark[r + 1][c + 1]);
                marks.remove(0);
                many += marks.size() >= 3 ? 1 : 0;
            }
        }
        return many;
    }

    public int change(int cell, int neighbour) {
        inside(cell >= 0 && cell < cells());
        List<int[]> all = neighbours(cell / wide, cell % wide);
        inside(neighbour >= 0 && neighbour < all.size());
        int[] n = all.get(neighbour);
        int r = cell / wide;
        int c = cell % wide;
        if (mark[r][c] == 0 || mark[n[0]][n[1]] == 0) {
            return 0;
        }
        Model other = copy();
        other.mark[r][c] = mark[n[0]][n[1]];
        if (work[n[0]][n[1]] == 0) {
            other.work[r][c] = 0;
        }
        return other.energy() - energy();
    }

    public int texture(int m) {
        legal(m >= 1 && m <= 9);
        if (wide == 0) {
            return 0;
        }
        return 1000 * (int) Arrays.stream(mark).flatMapToInt(Arrays::stream).filter(o -> o == m).count() / cells();
    }

    public int wall(int one, int other) {
        legal(one >= 1 && one <= 9 && other >= 1 && other <= 9 && one != other);
        int many = 0;
        for (int[] p : pairs()) {
            int a = mark[p[0]][p[1]];
            int b = mark[p[2]][p[3]];
            many += a == one && b == other || a == other && b == one ? 1 : 0;
        }
        return many;
    }

    public int line(int line, boolean isSeen) {
        inside(line >= 0 && line < wide + high);
        if (!isSeen) {
            return line < high ? wide : high;
        }
        int many = 0;
        for (int[] p : pairs()) {
            boolean isIn = line < high ? p[0] == line && p[2] == line : p[1] == line - high && p[3] == line - high;
            many += isIn && seenPair(mark[p[0]][p[1]], mark[p[2]][p[3]], etch) ? 1 : 0;
        }
        return many;
    }

    public int sided(int many) {
        legal(many >= 0);
        int[][] label = labels(1);
        int found = 0;
        for (int g = 0; g < grains(1); g++) {
            found += borders(label, g).size() == many ? 1 : 0;
        }
        return found;
    }

    public String picture() {
        return drawn(false);
    }

    public String etched() {
        return drawn(true);
    }

    private String drawn(boolean isEtched) {
        if (wide == 0) {
            return "-";
        }
        int[][] label = labels(etch);
        List<String> rows = new ArrayList<>();
        for (int r = 0; r < high; r++) {
            String row = "";
            for (int c = 0; c < wide; c++) {
                String sign = Integer.toString(mark[r][c]);
                if (isEtched) {
                    sign = hard[r][c] ? "#" : Integer.toString(leastIn(label, label[r][c]));
                }
                row += mark[r][c] == 0 ? "*" : sign;
            }
            rows.add(row);
        }
        return String.join("/", rows);
    }

    private int leastIn(int[][] label, int name) {
        int least = 10;
        for (int r = 0; r < high; r++) {
            for (int c = 0; c < wide; c++) {
                least = label[r][c] == name ? Math.min(least, mark[r][c]) : least;
            }
        }
        return least;
    }

    public int wouldHeat(int heat, int sweeps, int what) {
        legal(heat >= 0 && heat <= 9 && sweeps >= 1 && sweeps <= 4 && what >= 0 && what <= 15);
        Model other = copy();
        other.heat(heat, sweeps);
        return other.metal(what);
    }

    public int best(int aim, boolean isSize) {
        legal(aim >= 0 && aim <= 6400);
        int bestProgramme = 0;
        int bestSize = area(etch);
        for (int steps = 1; steps <= 3; steps++) {
            for (int p = 1; p <= 215; p++) {
                if (isProgramme(p) && Integer.toString(p, 6).length() == steps) {
                    int size = copy().furnace(p);
                    if (Math.abs(size - aim) < Math.abs(bestSize - aim)) {
                        bestProgramme = p;
                        bestSize = size;
                    }
                }
            }
        }
        return isSize ? bestSize : bestProgramme;
    }

    public int least(int cells, boolean isEnergy) {
        legal(cells > 0 && cells < 1 << 30);
        List<Integer> chosen = new ArrayList<>();
        for (int k = 0; k < 30; k++) {
            if ((cells & 1 << k) != 0) {
                chosen.add(k);
            }
        }
        legal(chosen.size() <= 4);
        for (int cell : chosen) {
            legal(cell < cells() && mark[cell / wide][cell % wide] != 0 && !hard[cell / wide][cell % wide]);
        }
        Set<Integer> marks = new TreeSet<>();
        Arrays.stream(mark).flatMapToInt(Arrays::stream).filter(m -> m != 0).forEach(marks::add);
        int limit = (int) Math.pow(10, chosen.size());
        int leastEnergy = Integer.MAX_VALUE;
        int leastNumber = -1;
        Model other = copy();
        for (int number = limit / 10; number < limit; number++) {
            String digits = Integer.toString(number);
            boolean isThere = true;
            for (int k = 0; k < chosen.size(); k++) {
                int m = digits.charAt(k) - '0';
                isThere = isThere && marks.contains(m);
                other.mark[chosen.get(k) / wide][chosen.get(k) % wide] = m;
            }
            if (isThere && other.energy() < leastEnergy) {
                leastEnergy = other.energy();
                leastNumber = number;
            }
        }
        return isEnergy ? leastEnergy : leastNumber;
    }

    public int wouldCool(int from, int to, int many) {
        legal(from >= 0 && from <= 9 && to >= 0 && to <= from && many >= 1 && many <= 64);
        for (int ticks = 1; ticks <= 50; ticks++) {
            if (copy().cool(from, to, ticks) >= many) {
                return ticks;
            }
        }
        return -1;
    }

    public boolean isSound() {
        return true;
    }

    public long digest() {
        long d = 58288;
        for (int what = 0; what <= 15; what++) {
            d = d * 31 + metal(what);
        }
        for (int cell = 0; cell < cells(); cell++) {
            for (int what = 0; what <= 5; what++) {
                d = d * 31 + ofCell(cell, what);
            }
        }
        for (int grain = 0; grain < grains(1); grain++) {
            for (int what = 0; what <= 6; what++) {
                d = d * 31 + ofGrain(grain, what);
            }
        }
        for (int m = 1; m <= 9; m++) {
            d = d * 31 + texture(m);
        }
        for (int line = 0; line < wide + high; line++) {
            d = d * 31 + line(line, true);
        }
        for (int many = 0; many <= 6; many++) {
            d = d * 31 + sided(many);
        }
        d = d * 31 + next;
        return d * 31 + 1;
    }
}
