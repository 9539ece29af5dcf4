import java.math.BigInteger;
import java.util.ArrayList;
import java.util.HashSet;
import java.util.List;
import java.util.Random;
import java.util.Set;

/**
 * Promises 10 to 20 for recipes of twenty steps, where real stacks would be too long for the Model: each cell is
 * counted by itself, by its leaves of both kinds, its lowest and top kind and its sheets.
 */
public final class DeepTest {
    private static final int DOUGH = 0;
    private static final int BUTTER = 1;
    private static final int LOWEST = 2;
    private static final int TOP = 3;
    private static final int SHEETS = 4;

    private final Random random;
    private final int grams;
    private final int firstCells;
    private final StringBuilder recipe = new StringBuilder();
    private final String kitchen;
    private long[][][] cells;
    private long thin = 1;
    private final long[] joins = new long[2];
    private BigInteger trimAbove = BigInteger.ZERO;
    private BigInteger trimBelow = BigInteger.ONE;

    private DeepTest(long seed) {
        random = new Random(seed);
        int across = 2 + random.nextInt(11);
        int down = 2 + random.nextInt(11);
        int rim = random.nextInt(Math.min(4, (Math.min(across, down) - 1) / 2 + 1));
        grams = 1 + random.nextInt(9999);
        firstCells = across * down;
        kitchen = "slab " + across + " " + down + " " + rim + ";weight " + grams + ";";
        cells = new long[across][down][];
        for (int x = 0; x < across; x++) {
            for (int y = 0; y < down; y++) {
                int edge = Math.min(Math.min(x, across - 1 - x), Math.min(y, down - 1 - y));
                cells[x][y] = edge < rim ? new long[] {1, 0, 0, 0, 1} : new long[] {2, 1, 0, 0, 1};
            }
        }
    }

    public static void main(String[] args) {
        int runs = args.length > 0 ? Integer.parseInt(args[0]) : 150;
        long from = args.length > 1 ? Long.parseLong(args[1]) : 1;
        for (long seed = from; seed < from + runs && Check.allWell(); seed++) {
            new DeepTest(seed).play();
        }
        Check.end();
    }

    /** The whole recipe must be told first, so the steps are drawn once and gone through again by a second one. */
    private void play() {
        long[][][] first = cells;
        List<String> steps = new ArrayList<>();
        for (int k = 0; k < 20; k++) {
            String step = drawn();
            steps.add(step);
            recipe.append(step).append(';');
            take(step);
        }
        cells = first;
        thin = 1;
        joins[0] = 0;
        joins[1] = 0;
        trimAbove = BigInteger.ZERO;
        trimBelow = BigInteger.ONE;
        ButterLeaves x = Check.with(kitchen, recipe.toString());
        due("done", x.steps(0, 1), 20);
        for (int k = 0; k <= 20; k++) {
            look(x, k);
            lookAtCells(x, k);
            if (k < 20) {
                take(steps.get(k));
            }
        }
    }

    private String drawn() {
        List<String> can = new ArrayList<>(List.of("turn", "turn", "turn"));
        int x = cells.length;
        for (int n = 2; n <= 4; n++) {
            for (int often = 0; often < 4; often++) {
                if (x * n <= 48) {
                    can.add("roll " + n);
                }
                if (x % n == 0 && often < 2) {
                    can.add("fold " + n);
                }
            }
        }
        if (x % 4 == 0) {
            can.add("book");
            can.add("book");
        }
        for (int n = 1; n <= 9; n++) {
            if (x >= 4 * n) {
                can.add("tuck " + n);
            }
            if (x > 2 * n && random.nextInt(10) == 0) {
                can.add("cut " + n);
            }
        }
        return can.get(random.nextInt(can.size()));
    }

    private void take(String step) {
        String[] words = step.split(" ");
        int n = words.length > 1 ? Integer.parseInt(words[1]) : 0;
        int x = cells.length;
        switch (words[0]) {
            case "roll":
                roll(n);
                break;
            case "fold":
                if (n == 3) {
                    rightOver(x / 3);
                    leftOver(x / 3);
                } else {
                    for (int parts = n; parts > 1; parts /= 2) {
                        rightOver(cells.length / 2);
                    }
                }
                break;
            case "book":
                leftOver(x / 4);
                rightOver(x / 4);
                rightOver(x / 4);
                break;
            case "tuck":
                leftOver(n);
                rightOver(n);
                break;
            case "cut":
                cut(n);
                break;
            default:
                turn();
                break;
        }
    }

    private void roll(int n) {
        long[][][] rolled = new long[cells.length * n][][];
        for (int i = 0; i < rolled.length; i++) {
            rolled[i] = cells[i / n];
        }
        cells = rolled;
        thin *= n;
    }

    private void turn() {
        long[][][] turned = new long[cells[0].length][cells.length][];
        for (int x = 0; x < cells.length; x++) {
            for (int y = 0; y < cells[0].length; y++) {
                turned[y][x] = cells[x][y];
            }
        }
        cells = turned;
    }

    private void cut(int n) {
        long[][][] kept = new long[cells.length - 2 * n][][];
        long sheets = 0;
        for (int x = 0; x < cells.length; x++) {
            if (x >= n && x < cells.length - n) {
                kept[x - n] = cells[x];
                continue;
            }
            for (long[] cell : cells[x]) {
                sheets += cell[SHEETS];
            }
        }
        BigInteger above = BigInteger.valueOf(grams).multiply(BigInteger.valueOf(sheets));
        BigInteger below = BigInteger.valueOf(firstCells).multiply(BigInteger.valueOf(thin));
        trimAbove = trimAbove.multiply(below).add(above.multiply(trimBelow));
        trimBelow = trimBelow.multiply(below);
        cells = kept;
    }

    private void rightOver(int n) {
        int left = cells.length - n;
        long[][][] laid = new long[left][][];
        for (int x = 0; x < left; x++) {
            int over = 2 * left - 1 - x;
            laid[x] = over < cells.length ? laidOn(cells[x], cells[over]) : cells[x];
        }
        cells = laid;
    }

    private void leftOver(int n) {
        long[][][] laid = new long[cells.length - n][][];
        for (int x = n; x < cells.length; x++) {
            int over = 2 * n - 1 - x;
            laid[x - n] = over >= 0 ? laidOn(cells[x], cells[over]) : cells[x];
        }
        cells = laid;
    }

    private long[][] laidOn(long[][] lower, long[][] upper) {
        long[][] laid = new long[lower.length][];
        for (int y = 0; y < lower.length; y++) {
            long[] a = lower[y];
            long[] b = upper[y];
            laid[y] = new long[] {a[DOUGH] + b[DOUGH], a[BUTTER] + b[BUTTER], a[LOWEST], b[LOWEST],
                a[SHEETS] + b[SHEETS]};
            // Turned over, the upper one's top lies on the lower one's.
            if (a[TOP] == b[TOP]) {
                laid[y][(int) a[TOP]]--;
                joins[(int) a[TOP]]++;
            }
        }
        return laid;
    }

    private void look(ButterLeaves x, int k) {
        due("across", x.behind(0, k, 0), cells.length);
        due("down", x.behind(0, k, 1), cells[0].length);
        due("thin", x.thin(0, k), thin);
        due("joins of dough", x.joins(0, k, 0), joins[0]);
        due("joins of butter", x.joins(0, k, 1), joins[1]);
        int[] counted = {DOUGH, BUTTER, SHEETS};
        for (int what = 0; what < 3; what++) {
            long most = cells[0][0][counted[what]];
            long least = most;
            for (long[][] column : cells) {
                for (long[] cell : column) {
                    most = Math.max(most, cell[counted[what]]);
                    least = Math.min(least, cell[counted[what]]);
                }
            }
            due("most", x.most(0, k, what), most);
            due("least", x.least(0, k, what), least);
        }
        due("block", x.block(0, k), greatestBlock(x.most(0, k, 1)));
        BigInteger common = trimAbove.gcd(trimBelow);
        due("trimmed above", x.trimmed(0, k, 0), trimAbove.divide(common).longValueExact());
        due("trimmed below", x.trimmed(0, k, 1), trimBelow.divide(common).longValueExact());
    }

    private int greatestBlock(long leaves) {
        int best = 0;
        for (int from = 0; from < cells.length; from++) {
            boolean[] whole = new boolean[cells[0].length];
            java.util.Arrays.fill(whole, true);
            for (int to = from; to < cells.length; to++) {
                int row = 0;
                for (int y = 0; y < whole.length; y++) {
                    whole[y] &= cells[to][y][BUTTER] == leaves;
                    row = whole[y] ? row + 1 : 0;
                    best = Math.max(best, row * (to - from + 1));
                }
            }
        }
        return best;
    }

    private void lookAtCells(ButterLeaves x, int k) {
        Set<List<Long>> kinds = new HashSet<>();
        for (long[][] column : cells) {
            for (long[] cell : column) {
                kinds.add(List.of(cell[DOUGH], cell[BUTTER], cell[LOWEST], cell[TOP]));
            }
        }
        due("kinds", x.kinds(0, k), kinds.size());
        for (int i = 0; i < 3; i++) {
            int cx = random.nextInt(cells.length);
            int cy = random.nextInt(cells[0].length);
            long[] cell = cells[cx][cy];
            for (int what = 0; what <= 4; what++) {
                due("leaf " + what, x.leaf(0, k, cx, cy, what), cell[what]);
            }
            long same = 0;
            for (long[][] column : cells) {
                for (long[] other : column) {
                    same += other[BUTTER] == cell[BUTTER] ? 1 : 0;
                }
            }
            due("having", x.having(0, k, cell[BUTTER]), same);
            BigInteger above = BigInteger.valueOf(grams).multiply(BigInteger.valueOf(cell[SHEETS]));
            BigInteger below = BigInteger.valueOf(firstCells).multiply(BigInteger.valueOf(thin));
            BigInteger common = above.gcd(below);
            due("weight above", x.weight(0, k, cx, cy, 0), above.divide(common).longValueExact());
            due("weight below", x.weight(0, k, cx, cy, 1), below.divide(common).longValueExact());
        }
    }

    private void due(String call, long got, long want) {
        Check.due(kitchen + " " + recipe + ": " + call, got, want);
    }
}
