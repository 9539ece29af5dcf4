import java.math.BigInteger;
import java.util.ArrayList;
import java.util.Arrays;
import java.util.HashMap;
import java.util.HashSet;
import java.util.List;
import java.util.Map;
import java.util.NoSuchElementException;
import java.util.Set;

/**
 * The document once more, as plainly as it can be written and without a thought of cost: real stacks of leaves, all
 * orders of blocks, all ways of passes. FuzzTest holds the class against it.
 */
final class Model {
    static final class TooBig extends RuntimeException {
        private static final long serialVersionUID = 1L;
    }

    static final class Token {
        final char type;
        final String text;
        final int at;

        Token(char type, String text, int at) {
            this.type = type;
            this.text = text;
            this.at = at;
        }
    }

    static final class Fault extends RuntimeException {
        private static final long serialVersionUID = 1L;
        final int kind;
        final int at;

        Fault(int kind, int at) {
            this.kind = kind;
            this.at = at;
        }
    }

    static final class Cell {
        final String leaves;
        final long sheets;

        Cell(String leaves, long sheets) {
            this.leaves = leaves;
            this.sheets = sheets;
        }

        Cell turned() {
            return new Cell(new StringBuilder(leaves).reverse().toString(), sheets);
        }

        long count(char kind) {
            return leaves.chars().filter(c -> c == kind).count();
        }
    }

    static final class State {
        Cell[][] cells;
        long thin = 1;
        long[] joins = new long[2];
        BigInteger trimAbove = BigInteger.ZERO;
        BigInteger trimBelow = BigInteger.ONE;
        int gone;
        int warmth;

        int across() {
            return cells.length;
        }

        int down() {
            return cells[0].length;
        }

        State copy() {
            State s = new State();
            s.cells = cells;
            s.thin = thin;
            s.joins = joins.clone();
            s.trimAbove = trimAbove;
            s.trimBelow = trimBelow;
            s.gone = gone;
            s.warmth = warmth;
            return s;
        }
    }

    static final class Told {
        final Map<String, int[]> clauses = new HashMap<>();
        final int[] room = new int[24];

        Told() {
            Arrays.fill(room, -1);
            clauses.put("slab", new int[] {6, 4, 0});
            clauses.put("weight", new int[] {1000});
            clauses.put("box", new int[] {4});
            clauses.put("low", new int[] {8});
            clauses.put("high", new int[] {18});
            clauses.put("rub", new int[] {10});
            clauses.put("start", new int[] {6});
        }

        int get(String word) {
            return clauses.get(word)[0];
        }

        int roomIn(int hour) {
            for (int back = 0; back < 24; back++) {
                int h = hour - back;
                if (h >= 0 && room[h] >= 0) {
                    return room[h];
                }
            }
            for (int h = 23; h >= 0; h--) {
                if (room[h] >= 0) {
                    return room[h];
                }
            }
            return 20;
        }
    }

    static final List<String> KINDS = List.of("roll", "fold", "book", "tuck", "cut", "turn", "rest", "stand");
    static final int[][] RANGES = {{2, 4}, {2, 4}, null, {1, 9}, {1, 9}, null, {1, 36}, {1, 36}};

    final List<Integer> tape = new ArrayList<>();
    Told told = new Told();
    final List<int[][]> recipes = new ArrayList<>();
    final List<int[]> images = new ArrayList<>();
    int faultAt = -1;
    int first = 72;
    /** More blocks than these have too many orders to try them all often. */
    int mostBlocks = 8;
    final Map<Integer, List<State>> runs = new HashMap<>();

    // ---- texts

    int feed(int... numbers) {
        if (tape.size() + 20 > 400) {
            return -1;
        }
        for (int n : numbers) {
            for (int i = 3; i >= 0; i--) {
                tape.add(n >> 8 * i & 255);
            }
        }
        return tape.size();
    }

    private List<Token> tokens(int n) {
        if (n < 0 || n > tape.size()) {
            throw new IllegalArgumentException();
        }
        StringBuilder text = new StringBuilder();
        for (int i = 0; i < n; i++) {
            text.append((char) (int) tape.get(i));
        }
        tape.clear();
        List<Token> found = new ArrayList<>();
        int at = 0;
        while (at < n) {
            char type = type(text.charAt(at));
            int from = at++;
            while (type != 's' && at < n && type(text.charAt(at)) == type) {
                at++;
            }
            if (type != ' ') {
                found.add(new Token(type, text.substring(from, at), from));
            }
        }
        found.add(new Token('e', "", n));
        return found;
    }

    private static char type(char c) {
        return c == ' ' ? ' ' : c >= 'a' && c <= 'z' ? 'w' : c >= '0' && c <= '9' ? 'n' : 's';
    }

    private static int number(Token t, int least, int most) {
        if (t.type != 'n') {
            throw new Fault(1, t.at);
        }
        BigInteger value = new BigInteger(t.text);
        if (value.compareTo(BigInteger.valueOf(least)) < 0 || value.compareTo(BigInteger.valueOf(most)) > 0) {
            throw new Fault(2, t.at);
        }
        return value.intValue();
    }

    private static void semicolon(Token t) {
        if (!t.text.equals(";")) {
            throw new Fault(1, t.at);
        }
    }

    int kitchen(int n) {
        List<Token> text = tokens(n);
        try {
            Told read = readKitchen(text);
            told = read;
            images.clear();
            first = 12 * told.get("start");
            runs.clear();
            faultAt = -1;
            int[] slab = told.clauses.get("slab");
            return slab[0] * slab[1];
        } catch (Fault f) {
            faultAt = f.at;
            return f.kind - 10;
        }
    }

    private static Told readKitchen(List<Token> text) {
        Map<String, int[]> ranges = Map.of("weight", new int[] {1, 9999}, "box", new int[] {0, 40},
                "low", new int[] {0, 40}, "high", new int[] {0, 40}, "rub", new int[] {0, 99},
                "start", new int[] {0, 23});
        Told read = new Told();
        int i = 0;
        for (int clauses = 1; text.get(i).type != 'e'; clauses++) {
            Token word = text.get(i++);
            boolean known = ranges.containsKey(word.text) || word.text.equals("slab") || word.text.equals("room");
            if (!known) {
                throw new Fault(1, word.at);
            }
            if (clauses > 30) {
                throw new Fault(3, word.at);
            }
            if (word.text.equals("slab")) {
                int x = number(text.get(i++), 2, 12);
                int y = number(text.get(i++), 2, 12);
                Token rim = text.get(i++);
                int r = number(rim, 0, 3);
                if (2 * r >= x || 2 * r >= y) {
                    throw new Fault(2, rim.at);
                }
                read.clauses.put("slab", new int[] {x, y, r});
            } else if (word.text.equals("room")) {
                int h = number(text.get(i++), 0, 23);
                read.room[h] = number(text.get(i++), 0, 40);
            } else {
                int[] range = ranges.get(word.text);
                read.clauses.put(word.text, new int[] {number(text.get(i++), range[0], range[1])});
            }
            semicolon(text.get(i++));
        }
        return read;
    }

    int recipe(int n) {
        List<Token> text = tokens(n);
        faultAt = -1;
        if (recipes.size() == 4) {
            return -1;
        }
        try {
            List<int[]> steps = new ArrayList<>();
            int i = 0;
            while (text.get(i).type != 'e') {
                Token word = text.get(i++);
                int kind = KINDS.indexOf(word.text);
                if (kind < 0) {
                    throw new Fault(1, word.at);
                }
                if (steps.size() == 20) {
                    throw new Fault(3, word.at);
                }
                int[] range = RANGES[kind];
                int value = range == null ? 0 : number(text.get(i++), range[0], range[1]);
                semicolon(text.get(i++));
                steps.add(new int[] {kind, value});
            }
            if (steps.isEmpty()) {
                throw new Fault(1, text.get(i).at);
            }
            recipes.add(steps.toArray(new int[0][]));
            runs.remove(recipes.size() - 1);
            return recipes.size() - 1;
        } catch (Fault f) {
            faultAt = f.at;
            return f.kind - 10;
        }
    }

    static int units(int[] step) {
        switch (step[0]) {
            case 0:
                return 2;
            case 5:
                return 0;
            case 6:
            case 7:
                return step[1];
            default:
                return 1;
        }
    }

    /** A kitchen and recipes, each as a whole text; what can't be told is left out. */
    void tell(String kitchen, String... texts) {
        feedAll(kitchen);
        kitchen(Check.bytes(kitchen).length);
        for (String text : texts) {
            feedAll(text);
            recipe(Check.bytes(text).length);
        }
    }

    private void feedAll(String text) {
        byte[] bytes = Check.bytes(text);
        for (int from = 0; from < bytes.length; from += 20) {
            feed(Check.numbers(bytes, from));
        }
    }

    // ---- the slab

    private State firstState() {
        int[] slab = told.clauses.get("slab");
        State s = new State();
        s.cells = new Cell[slab[0]][slab[1]];
        for (int x = 0; x < slab[0]; x++) {
            for (int y = 0; y < slab[1]; y++) {
                int edge = Math.min(Math.min(x, slab[0] - 1 - x), Math.min(y, slab[1] - 1 - y));
                s.cells[x][y] = new Cell(edge < slab[2] ? "D" : "DBD", 1);
            }
        }
        s.warmth = 10 * told.get("box");
        return s;
    }

    List<State> run(int recipe) {
        if (recipe < 0 || recipe >= recipes.size()) {
            throw new NoSuchElementException();
        }
        List<State> run = runs.get(recipe);
        if (run == null) {
            run = new ArrayList<>();
            run.add(firstState());
            for (int[] step : recipes.get(recipe)) {
                State next = laid(run.get(run.size() - 1), step);
                if (next == null) {
                    break;
                }
                run.add(next);
            }
            runs.put(recipe, run);
        }
        return run;
    }

    /** Columns of stacks, laid upon one another one fold after the other. */
    private State laid(State former, int[] step) {
        State s = former.copy();
        int n = step[1];
        int x = s.across();
        switch (step[0]) {
            case 0:
                if (x * n > 48) {
                    return null;
                }
                Cell[][] rolled = new Cell[x * n][];
                for (int i = 0; i < x * n; i++) {
                    rolled[i] = s.cells[i / n];
                }
                s.cells = rolled;
                s.thin *= n;
                break;
            case 1:
                if (x % n != 0) {
                    return null;
                }
                if (n == 3) {
                    overRight(s, x / 3);
                    overLeft(s, x / 3);
                } else {
                    for (int parts = n; parts > 1; parts /= 2) {
                        overRight(s, s.across() / 2);
                    }
                }
                break;
            case 2:
                if (x % 4 != 0) {
                    return null;
                }
                overLeft(s, x / 4);
                overRight(s, x / 4);
                overRight(s, s.across() / 2);
                break;
            case 3:
                if (x < 4 * n) {
                    return null;
                }
                overLeft(s, n);
                overRight(s, n);
                break;
            case 4:
                if (x <= 2 * n) {
                    return null;
                }
                for (int i = 0; i < n; i++) {
                    trim(s, s.cells[i]);
                    trim(s, s.cells[x - 1 - i]);
                }
                s.cells = Arrays.copyOfRange(s.cells, n, x - n);
                break;
            case 5:
                Cell[][] turned = new Cell[s.down()][x];
                for (int i = 0; i < x; i++) {
                    for (int j = 0; j < s.down(); j++) {
                        turned[j][i] = s.cells[i][j];
                    }
                }
                s.cells = turned;
                break;
            default:
                break;
        }
        return s;
    }

    private static void overRight(State s, int n) {
        int x = s.across();
        Cell[][] cells = Arrays.copyOf(s.cells, x - n);
        for (int i = 0; i < n; i++) {
            cells[x - n - 1 - i] = layColumn(s, cells[x - n - 1 - i], s.cells[x - n + i]);
        }
        s.cells = cells;
    }

    private static void overLeft(State s, int n) {
        Cell[][] cells = Arrays.copyOfRange(s.cells, n, s.across());
        for (int i = 0; i < n; i++) {
            cells[i] = layColumn(s, cells[i], s.cells[n - 1 - i]);
        }
        s.cells = cells;
    }

    private static Cell[] layColumn(State s, Cell[] lower, Cell[] upper) {
        Cell[] laid = new Cell[lower.length];
        for (int y = 0; y < lower.length; y++) {
            Cell over = upper[y].turned();
            String low = lower[y].leaves;
            if (low.length() + over.leaves.length() > 3000) {
                throw new TooBig();
            }
            boolean join = low.charAt(low.length() - 1) == over.leaves.charAt(0);
            if (join) {
                s.joins[over.leaves.charAt(0) == 'D' ? 0 : 1]++;
            }
            String leaves = low + (join ? over.leaves.substring(1) : over.leaves);
            laid[y] = new Cell(leaves, lower[y].sheets + over.sheets);
        }
        return laid;
    }

    private void trim(State s, Cell[] column) {
        for (Cell cell : column) {
            BigInteger[] w = weight(s, cell);
            BigInteger above = s.trimAbove.multiply(w[1]).add(w[0].multiply(s.trimBelow));
            BigInteger below = s.trimBelow.multiply(w[1]);
            BigInteger common = above.gcd(below);
            s.trimAbove = above.divide(common);
            s.trimBelow = below.divide(common);
        }
    }

    private BigInteger[] weight(State s, Cell cell) {
        int[] slab = told.clauses.get("slab");
        BigInteger above = BigInteger.valueOf(told.get("weight")).multiply(BigInteger.valueOf(cell.sheets));
        BigInteger below = BigInteger.valueOf(slab[0] * slab[1]).multiply(BigInteger.valueOf(s.thin));
        BigInteger common = above.gcd(below);
        return new BigInteger[] {above.divide(common), below.divide(common)};
    }

    private State state(int recipe, int k) {
        List<State> run = run(recipe);
        if (k < 0 || k >= run.size()) {
            throw new IndexOutOfBoundsException();
        }
        return run.get(k);
    }

    private static void what(int what, int most) {
        if (what < 0 || what > most) {
            throw new IllegalArgumentException();
        }
    }

    private static Cell cell(State s, int x, int y) {
        if (x < 0 || y < 0 || x >= s.across() || y >= s.down()) {
            throw new IndexOutOfBoundsException();
        }
        return s.cells[x][y];
    }

    private static long property(Cell c, int what) {
        switch (what) {
            case 0:
                return c.count('D');
            case 1:
                return c.count('B');
            case 2:
                return c.leaves.charAt(0) == 'D' ? 0 : 1;
            case 3:
                return c.leaves.charAt(c.leaves.length() - 1) == 'D' ? 0 : 1;
            default:
                return c.sheets;
        }
    }

    private static List<Cell> all(State s) {
        List<Cell> all = new ArrayList<>();
        for (Cell[] column : s.cells) {
            all.addAll(Arrays.asList(column));
        }
        return all;
    }

    private static int blockOf(State s) {
        long most = all(s).stream().mapToLong(c -> c.count('B')).max().getAsLong();
        boolean[][] full = new boolean[s.across()][s.down()];
        for (int x = 0; x < s.across(); x++) {
            for (int y = 0; y < s.down(); y++) {
                full[x][y] = s.cells[x][y].count('B') == most;
            }
        }
        int best = 0;
        for (int x = 0; x < s.across(); x++) {
            for (int y = 0; y < s.down(); y++) {
                int height = s.down();
                for (int w = x; w < s.across() && full[w][y]; w++) {
                    int h = 0;
                    while (h < height && y + h < s.down() && full[w][y + h]) {
                        h++;
                    }
                    height = h;
                    best = Math.max(best, height * (w - x + 1));
                }
            }
        }
        return best;
    }

    // ---- time and warmth

    /** Warmth behind each unit of a step, then at its end; the state it begins with gives the time. */
    private int[] warmths(int firstUnit, int gone, int warmth, int[] step) {
        int units = units(step);
        int[] all = new int[units + 1];
        int w = warmth;
        for (int i = 0; i < units; i++) {
            int hour = (firstUnit + gone + i) * 5 / 60 % 24;
            w += step[0] == 6 ? (10 * told.get("box") - w) / 5 : (10 * told.roomIn(hour) - w) / 10;
            all[i] = w;
        }
        all[units] = step[0] == 0 ? w + told.get("rub") : w;
        return all;
    }

    /** Of the first steps of a recipe: where it breaks, where it runs, then gone and warmth behind each. */
    int[][] course(int recipe, int steps, int firstUnit) {
        int[][] all = new int[steps + 2][];
        int[] wrong = {-1, -1};
        all[0] = wrong;
        int gone = 0;
        int warmth = 10 * told.get("box");
        all[1] = new int[] {gone, warmth};
        for (int k = 0; k < steps; k++) {
            int[] step = recipes.get(recipe)[k];
            if (step[0] == 0 && warmth < 10 * told.get("low") && wrong[0] < 0) {
                wrong[0] = k;
            }
            int[] w = warmths(firstUnit, gone, warmth, step);
            if (Arrays.stream(w).max().getAsInt() > 10 * told.get("high") && wrong[1] < 0) {
                wrong[1] = k;
            }
            gone += units(step);
            warmth = w[w.length - 1];
            all[k + 2] = new int[] {gone, warmth};
        }
        return all;
    }

    int latest(int recipe) {
        int size = run(recipe).size() - 1;
        if (size < recipes.get(recipe).length) {
            return -1;
        }
        for (int unit = 287; unit >= 0; unit--) {
            int[] wrong = course(recipe, size, unit)[0];
            if (wrong[0] < 0 && wrong[1] < 0) {
                return unit;
            }
        }
        return -1;
    }

    // ---- passes

    /** What is left of a way: units, passes, then 10 times wait and f of each. */
    private int[] way(int gone, int warmth, int n, boolean passesFirst, Map<Long, int[]> known) {
        if (n == 1) {
            return new int[] {0, 0};
        }
        long key = ((long) gone * 1000 + warmth) * 2000 + n;
        if (known.containsKey(key)) {
            return known.get(key);
        }
        int[] best = null;
        for (int wait = 0; wait <= 24; wait++) {
            int[] end = endOfPass(gone, warmth, wait);
            for (int f = 2; f <= 4 && end != null; f++) {
                int[] rest = n % f == 0 ? way(end[0], end[1], n / f, passesFirst, known) : null;
                if (rest != null) {
                    int[] found = new int[rest.length + 1];
                    found[0] = rest[0] + end[0] - gone;
                    found[1] = rest[1] + 1;
                    found[2] = 10 * wait + f;
                    System.arraycopy(rest, 2, found, 3, rest.length - 2);
                    if (best == null || isAhead(found, best, passesFirst)) {
                        best = found;
                    }
                }
            }
        }
        known.put(key, best);
        return best;
    }

    private static boolean isAhead(int[] one, int[] other, boolean passesFirst) {
        int a = passesFirst ? 1 : 0;
        if (one[a] != other[a]) {
            return one[a] < other[a];
        }
        if (one[1 - a] != other[1 - a]) {
            return one[1 - a] < other[1 - a];
        }
        for (int i = 2; i < one.length; i++) {
            if (one[i] != other[i]) {
                return one[i] < other[i];
            }
        }
        return false;
    }

    private int[] endOfPass(int gone, int warmth, int wait) {
        List<int[]> steps = new ArrayList<>();
        if (wait > 0) {
            steps.add(wait > 12 ? new int[] {7, wait - 12} : new int[] {6, wait});
        }
        steps.add(new int[] {0, 2});
        steps.add(new int[] {1, 2});
        steps.add(new int[] {5, 0});
        int g = gone;
        int w = warmth;
        for (int[] step : steps) {
            if (step[0] == 0 && w < 10 * told.get("low")) {
                return null;
            }
            int[] all = warmths(first, g, w, step);
            if (Arrays.stream(all).max().getAsInt() > 10 * told.get("high")) {
                return null;
            }
            w = all[all.length - 1];
            g += units(step);
        }
        return g > 120 ? null : new int[] {g, w};
    }

    int[] bestWay(int n, boolean passesFirst) {
        if (n < 1 || n > 1024) {
            throw new IllegalArgumentException();
        }
        return way(0, 10 * told.get("box"), n, passesFirst, new HashMap<>());
    }

    // ---- the bench

    /** Of each recipe: rests ahead, a block's units, rests, .., rests behind the last block. */
    private List<List<Integer>> rows() {
        List<List<Integer>> rows = new ArrayList<>();
        for (int[][] recipe : recipes) {
            List<Integer> row = new ArrayList<>(List.of(0));
            for (int[] step : recipe) {
                boolean rest = step[0] == 6;
                boolean inRest = row.size() % 2 == 1;
                if (units(step) == 0) {
                    continue;
                }
                if (rest != inRest) {
                    row.add(0);
                }
                row.set(row.size() - 1, row.get(row.size() - 1) + units(step));
            }
            if (row.size() % 2 == 0) {
                row.add(0);
            }
            rows.add(row);
        }
        return rows;
    }

    /** Done, blocks, idle, then the turns; null if there are too many blocks. */
    int[] bestBench() {
        List<List<Integer>> rows = rows();
        int blocks = rows.stream().mapToInt(r -> r.size() / 2).sum();
        if (blocks > 12) {
            return null;
        }
        if (blocks > mostBlocks) {
            throw new TooBig();
        }
        int[][] best = new int[1][];
        int[] ready = rows.stream().mapToInt(r -> r.get(0)).toArray();
        tryAll(rows, new int[rows.size()], ready, 0, new ArrayList<>(), best);
        int work = rows.stream().mapToInt(r -> {
            int sum = 0;
            for (int i = 1; i < r.size(); i += 2) {
                sum += r.get(i);
            }
            return sum;
        }).sum();
        best[0][2] -= work;
        return best[0];
    }

    private static void tryAll(List<List<Integer>> rows, int[] next, int[] ready, int free, List<Integer> turns,
            int[][] best) {
        boolean any = false;
        for (int r = 0; r < rows.size(); r++) {
            List<Integer> row = rows.get(r);
            if (2 * next[r] + 1 < row.size()) {
                any = true;
                int start = Math.max(free, ready[r]);
                int end = start + row.get(2 * next[r] + 1);
                int[] nextReady = ready.clone();
                nextReady[r] = end + row.get(2 * next[r] + 2);
                int[] nextNext = next.clone();
                nextNext[r]++;
                turns.add(1000 * r + start);
                tryAll(rows, nextNext, nextReady, end, turns, best);
                turns.remove(turns.size() - 1);
            }
        }
        if (!any) {
            int done = Arrays.stream(ready).max().orElse(0);
            if (best[0] == null || done < best[0][0]) {
                best[0] = new int[3 + turns.size()];
                best[0][0] = done;
                best[0][1] = turns.size();
                best[0][2] = free;
                for (int i = 0; i < turns.size(); i++) {
                    best[0][3 + i] = turns.get(i);
                }
            }
        }
    }

    // ---- all calls

    long call(String name, long... a) {
        int[] i = Arrays.stream(a).mapToInt(v -> (int) v).toArray();
        switch (name) {
            case "feed":
                return feed(i);
            case "kitchen":
                return kitchen(i[0]);
            case "recipe":
                return recipe(i[0]);
            case "fault":
                return faultAt;
            case "told":
                return toldOf(i[0]);
            case "room":
                what(i[0], 23);
                return told.roomIn(i[0]);
            case "step":
                return stepOf(i);
            case "steps":
                run(i[0]);
                what(i[1], 1);
                return i[1] == 0 ? recipes.get(i[0]).length : run(i[0]).size() - 1;
            case "wrong":
                return wrongOf(i);
            case "begin":
                what(i[0], 287);
                int former = first;
                first = i[0];
                return former;
            case "latest":
                return latest(i[0]);
            case "image":
                if (images.size() == 3) {
                    return -1;
                }
                images.add(new int[] {recipes.size(), first});
                return images.size();
            case "restore":
                return restored();
            case "count":
                return i[0] == 0 ? images.size() : i[0] == 1 ? tape.size() : -1;
            default:
                return name.equals("soonest") || name.equals("pass") || name.equals("fewest") || name.equals("bench")
                        || name.equals("turnOf") ? searched(name, i) : ofSlab(name, i, a);
        }
    }

    private long toldOf(int what) {
        what(what, 9);
        if (what < 3) {
            return told.clauses.get("slab")[what];
        }
        if (what == 8) {
            return first;
        }
        return what == 9 ? recipes.size() : told.get(List.of("weight", "box", "low", "high", "rub").get(what - 3));
    }

    private long stepOf(int[] i) {
        run(i[0]);
        int[][] steps = recipes.get(i[0]);
        if (i[1] < 0 || i[1] >= steps.length) {
            throw new IndexOutOfBoundsException();
        }
        what(i[2], 2);
        return i[2] == 2 ? units(steps[i[1]]) : steps[i[1]][i[2]];
    }

    private long wrongOf(int[] i) {
        int done = run(i[0]).size() - 1;
        what(i[1], 2);
        if (i[1] == 2) {
            return done < recipes.get(i[0]).length ? done : -1;
        }
        return course(i[0], done, first)[0][i[1]];
    }

    private long restored() {
        if (images.isEmpty()) {
            return -1;
        }
        int[] image = images.remove(images.size() - 1);
        while (recipes.size() > image[0]) {
            recipes.remove(recipes.size() - 1);
            runs.remove(recipes.size());
        }
        first = image[1];
        return images.size();
    }

    private long searched(String name, int[] i) {
        if (name.equals("turnOf")) {
            int[] best = bestBench();
            return best == null || i[0] < 0 || i[0] >= best[1] ? -1 : best[3 + i[0]];
        }
        if (name.equals("bench")) {
            what(i[0], 2);
            int[] best = bestBench();
            return best == null ? -1 : best[i[0]];
        }
        int[] way = bestWay(i[0], name.equals("fewest"));
        if (name.equals("pass")) {
            return way == null || i[1] < 0 || i[1] >= way[1] ? -1 : way[2 + i[1]];
        }
        what(i[1], 1);
        return way == null ? -1 : way[i[1]];
    }

    private long ofSlab(String name, int[] i, long[] a) {
        State s = state(i[0], i[1]);
        switch (name) {
            case "behind":
                what(i[2], 3);
                return i[2] == 0 ? s.across() : i[2] == 1 ? s.down() : course(i[0], i[1], first)[i[1] + 1][i[2] - 2];
            case "thin":
                return s.thin;
            case "leaf":
                Cell asked = cell(s, i[2], i[3]);
                what(i[4], 4);
                return property(asked, i[4]);
            case "most":
                what(i[2], 2);
                return all(s).stream().mapToLong(c -> property(c, i[2] == 2 ? 4 : i[2])).max().getAsLong();
            case "least":
                what(i[2], 2);
                return all(s).stream().mapToLong(c -> property(c, i[2] == 2 ? 4 : i[2])).min().getAsLong();
            case "having":
                return all(s).stream().filter(c -> c.count('B') == a[2]).count();
            case "kinds":
                Set<List<Long>> kinds = new HashSet<>();
                for (Cell c : all(s)) {
                    kinds.add(List.of(property(c, 0), property(c, 1), property(c, 2), property(c, 3)));
                }
                return kinds.size();
            case "block":
                return blockOf(s);
            case "joins":
                what(i[2], 1);
                return s.joins[i[2]];
            case "weight":
                Cell weighed = cell(s, i[2], i[3]);
                what(i[4], 1);
                return weight(s, weighed)[i[4]].longValueExact();
            case "trimmed":
                what(i[2], 1);
                return (i[2] == 0 ? s.trimAbove : s.trimBelow).longValueExact();
            default:
                throw new UnsupportedOperationException(name);
        }
    }
}
