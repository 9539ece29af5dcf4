/** Promises 8 to 20: steps, what is behind them, leaves, blocks, joins and weights. */
public final class SlabTest {
    public static void main(String[] args) {
        steps();
        behind();
        stuck();
        folds();
        tuckAndCut();
        joins();
        turnAndRim();
        stacks();
        blocks();
        weights();
        wrongInputs();
        longRun();
        Check.end();
    }

    private static void steps() {
        ButterLeaves x = Check.with("", "roll 4;fold 3;book;tuck 9;cut 8;turn;rest 36;stand 1;");
        int[][] due = {{0, 4, 2}, {1, 3, 1}, {2, 0, 1}, {3, 9, 1}, {4, 8, 1}, {5, 0, 0}, {6, 36, 36}, {7, 1, 1}};
        for (int k = 0; k < 8; k++) {
            for (int what = 0; what < 3; what++) {
                Check.due("step(0, " + k + ", " + what + ")", x.step(0, k, what), due[k][what]);
            }
        }
        Check.due("steps", x.steps(0, 0), 8);
        Check.due("done: 24, 8, 2, then no tuck", x.steps(0, 1), 3);
    }

    private static void behind() {
        ButterLeaves x = Check.with("slab 12 3 0;", "roll 4;fold 4;turn;tuck 9;");
        int[] across = {12, 48, 12, 3};
        int[] down = {3, 3, 3, 12};
        for (int k = 0; k < 4; k++) {
            Check.due("X behind " + k, x.behind(0, k, 0), across[k]);
            Check.due("Y behind " + k, x.behind(0, k, 1), down[k]);
        }
        Check.due("units", x.behind(0, 3, 2), 3);
        Check.due("thin at first", x.thin(0, 0), 1);
        Check.due("thin", x.thin(0, 1), 4);
        Check.due("thin stays", x.thin(0, 3), 4);
        ButterLeaves y = Check.with("slab 2 2 0;", "roll 3;roll 4;roll 2;");
        Check.due("thin 12", y.thin(0, 2), 12);
        Check.due("thin 24", y.thin(0, 3), 24);
        Check.due("48 across", y.behind(0, 3, 0), 48);
    }

    private static void stuckAt(String kitchen, String recipe, int done) {
        ButterLeaves x = Check.with(kitchen, recipe);
        int size = x.steps(0, 0);
        Check.due(kitchen + recipe + " done", x.steps(0, 1), done);
        Check.due(kitchen + recipe + " stuck", x.wrong(0, 2), done < size ? done : ButterLeaves.NONE);
        Check.dueOutside(kitchen + recipe + " behind", () -> x.behind(0, done + 1, 0));
    }

    private static void stuck() {
        stuckAt("slab 12 2 0;", "roll 4;", 1);
        stuckAt("slab 12 2 0;", "roll 4;roll 2;turn;", 1);
        stuckAt("slab 5 2 0;", "fold 2;", 0);
        stuckAt("slab 5 2 0;", "fold 3;", 0);
        stuckAt("slab 6 2 0;", "fold 4;", 0);
        stuckAt("slab 6 2 0;", "book;", 0);
        stuckAt("slab 8 2 0;", "book;", 1);
        stuckAt("slab 8 2 0;", "fold 4;", 1);
        stuckAt("slab 8 2 0;", "tuck 2;", 1);
        stuckAt("slab 7 2 0;", "tuck 2;", 0);
        stuckAt("slab 4 2 0;", "cut 2;", 0);
        stuckAt("slab 5 2 0;", "cut 2;", 1);
        stuckAt("slab 2 2 0;", "fold 2;fold 2;turn;rest 1;", 1);
        stuckAt("slab 2 2 0;", "turn;fold 2;turn;fold 2;turn;stand 3;fold 2;rest 2;", 6);
    }

    /** Butter of each column of the top row of inner cells, when all rows are alike. */
    private static void columns(String recipe, int k, long... butter) {
        ButterLeaves x = Check.with("slab 12 12 3;", recipe);
        Check.due(recipe + " across", x.behind(0, k, 0), butter.length);
        for (int column = 0; column < butter.length; column++) {
            Check.due(recipe + " column " + column, x.leaf(0, k, column, 5, 1), butter[column]);
            Check.due(recipe + " rim row", x.leaf(0, k, column, 2, 1), 0);
        }
    }

    private static void folds() {
        // Columns 0 to 2 and 9 to 11 are rim; 3 to 8 have butter.
        columns("fold 2;", 1, 0, 0, 0, 2, 2, 2);
        columns("fold 3;", 1, 2, 1, 1, 2);
        columns("fold 4;", 1, 2, 2, 2);
        columns("book;", 1, 2, 2, 2);
        columns("cut 2;fold 4;", 2, 2, 4);
        columns("cut 2;book;", 2, 4, 2);
        columns("fold 2;roll 2;fold 4;", 3, 4, 4, 4);
        columns("fold 2;roll 2;cut 2;fold 4;", 4, 4, 4);
        columns("fold 2;roll 2;cut 2;book;", 4, 4, 4);
        columns("tuck 2;", 1, 0, 1, 1, 1, 1, 1, 1, 0);
        columns("tuck 3;", 1, 1, 1, 1, 1, 1, 1);
        columns("cut 3;tuck 1;", 2, 2, 1, 1, 2);
        columns("roll 2;cut 5;tuck 2;", 3, 2, 1, 1, 1, 1, 1, 1, 1, 1, 2);
        columns("fold 2;tuck 1;", 2, 0, 0, 2, 4);
        columns("fold 2;fold 3;", 2, 2, 4);
    }

    private static void tuckAndCut() {
        ButterLeaves x = Check.with("slab 9 2 0;", "tuck 2;cut 1;");
        long[] sheets = {2, 2, 1, 2, 2};
        for (int column = 0; column < 5; column++) {
            Check.due("sheets " + column, x.leaf(0, 1, column, 1, 4), sheets[column]);
        }
        Check.due("cut leaves three", x.behind(0, 2, 0), 3);
        Check.due("the second", x.leaf(0, 2, 0, 0, 4), 2);
        Check.due("the middle", x.leaf(0, 2, 1, 0, 4), 1);
        Check.due("joins of the tuck", x.joins(0, 1, 0), 8);
        Check.due("none by the cut", x.joins(0, 2, 0), 8);
        Check.due("none of butter", x.joins(0, 2, 1), 0);
    }

    private static void joinsOf(String recipe, int joins) {
        ButterLeaves x = Check.with("slab 12 5 2;", recipe);
        Check.due("joins of " + recipe, x.joins(0, 1, 0), joins);
        Check.due("joins of butter of " + recipe, x.joins(0, 1, 1), 0);
    }

    private static void joins() {
        joinsOf("roll 2;", 0);
        joinsOf("fold 2;", 30);
        joinsOf("fold 3;", 40);
        joinsOf("fold 4;", 45);
        joinsOf("book;", 45);
        joinsOf("tuck 3;", 30);
        joinsOf("cut 5;", 0);
        joinsOf("turn;", 0);
        joinsOf("rest 4;", 0);
    }

    private static void turnAndRim() {
        ButterLeaves x = Check.with("slab 6 3 1;", "turn;fold 3;turn;roll 2;");
        Check.due("butter at first", x.leaf(0, 0, 4, 1, 1), 1);
        Check.due("rim at first", x.leaf(0, 0, 4, 0, 1), 0);
        Check.due("turned", x.leaf(0, 1, 1, 4, 1), 1);
        Check.due("turned rim", x.leaf(0, 1, 0, 4, 1), 0);
        Check.due("one column left", x.behind(0, 2, 0), 1);
        Check.due("three in one", x.leaf(0, 2, 0, 4, 4), 3);
        Check.due("with one butter", x.leaf(0, 2, 0, 4, 1), 1);
        Check.due("and two of dough", x.leaf(0, 2, 0, 4, 0), 2);
        Check.due("the rim is all dough", x.leaf(0, 2, 0, 5, 0), 1);
        Check.due("turned back", x.behind(0, 3, 1), 1);
        Check.due("rolled", x.leaf(0, 4, 9, 0, 1), 1);
        Check.due("rolled rim", x.leaf(0, 4, 10, 0, 1), 0);
        Check.due("joins: 12 cells laid", x.joins(0, 4, 0), 12);
    }

    private static void stacks() {
        ButterLeaves x = Check.with("slab 6 4 1;", "fold 2;tuck 3;");
        Check.due("most dough", x.most(0, 1, 0), 3);
        Check.due("most butter", x.most(0, 1, 1), 2);
        Check.due("most sheets", x.most(0, 1, 2), 2);
        Check.due("least dough", x.least(0, 1, 0), 1);
        Check.due("least butter", x.least(0, 1, 1), 0);
        Check.due("least sheets", x.least(0, 1, 2), 2);
        Check.due("least sheets at first", x.least(0, 0, 2), 1);
        Check.due("lowest", x.leaf(0, 1, 1, 1, 2), 0);
        Check.due("on top", x.leaf(0, 1, 1, 1, 3), 0);
        Check.due("having 2", x.having(0, 1, 2), 4);
        Check.due("having 0", x.having(0, 1, 0), 8);
        Check.due("having 1", x.having(0, 1, 1), 0);
        Check.due("having -1", x.having(0, 1, -1), 0);
        Check.due("having 2 and 2 to the 32nd", x.having(0, 1, 2 + (1L << 32)), 0);
        Check.due("kinds", x.kinds(0, 1), 2);
        ButterLeaves y = Check.with("slab 9 9 0;", "tuck 1;turn;tuck 2;");
        // Sheets 2 1 1 1 1 1 2 one way, 2 2 1 2 2 the other: 1, 2 and 4.
        Check.due("kinds of both ways", y.kinds(0, 3), 3);
        Check.due("most of both", y.most(0, 3, 1), 4);
        Check.due("least of both", y.least(0, 3, 1), 1);
        Check.due("having 4", y.having(0, 3, 4), 8);
        Check.due("having 2 of both", y.having(0, 3, 2), 22);
        Check.due("having 1 of both", y.having(0, 3, 1), 5);
        ButterLeaves z = Check.with("slab 9 9 0;", "turn;turn;");
        Check.due("one kind", z.kinds(0, 2), 1);
    }

    private static void blocks() {
        ButterLeaves x = Check.with("slab 9 9 0;", "tuck 1;turn;tuck 2;");
        Check.due("all", x.block(0, 0), 81);
        Check.due("one column of 9", x.block(0, 1), 9);
        Check.due("two beside one another", x.block(0, 3), 2);
        ButterLeaves y = Check.with("slab 12 5 2;", "cut 1;fold 2;");
        Check.due("one row", y.block(0, 0), 8);
        Check.due("still", y.block(0, 1), 8);
        Check.due("folded", y.block(0, 2), 4);
        ButterLeaves z = Check.with("slab 8 8 3;", "fold 2;cut 1;");
        Check.due("no butter at all: all have the most", z.most(0, 2, 1), 0);
        Check.due("so all are the block", z.block(0, 2), 16);
    }

    private static void weights() {
        ButterLeaves x = Check.with("slab 5 7 0;weight 210;", "roll 3;fold 3;cut 1;roll 2;cut 2;tuck 1;");
        Check.due("6 grams", x.weight(0, 0, 4, 6, 0), 6);
        Check.due("whole", x.weight(0, 0, 4, 6, 1), 1);
        Check.due("2 grams", x.weight(0, 1, 14, 6, 0), 2);
        Check.due("6 again", x.weight(0, 2, 4, 0, 0), 6);
        Check.due("trimmed 84", x.trimmed(0, 3, 0), 84);
        Check.due("trimmed before", x.trimmed(0, 2, 0), 0);
        Check.due("by 1", x.trimmed(0, 2, 1), 1);
        Check.due("stays", x.trimmed(0, 4, 0), 84);
        Check.due("and 4 columns of 7 cells of 3", x.trimmed(0, 5, 0), 168);
        Check.due("whole", x.trimmed(0, 5, 1), 1);
        Check.due("no tuck of 2", x.steps(0, 1), 5);
        ButterLeaves z = Check.with("slab 6 4 0;weight 240;", "turn;fold 2;turn;cut 1;");
        Check.due("twice as thick: two columns of two cells of 20", z.trimmed(0, 4, 0), 80);
        ButterLeaves y = Check.with("slab 7 11 0;weight 9999;", "roll 4;cut 9;");
        Check.due("above", y.weight(0, 1, 0, 0, 0), 909);
        Check.due("below", y.weight(0, 1, 0, 0, 1), 28);
        // 18 columns of 11 cells, each 9,999 by 77 by 4.
        Check.due("trimmed above", y.trimmed(0, 2, 0), 9 * 9999);
        Check.due("trimmed below", y.trimmed(0, 2, 1), 14);
    }

    private static void wrongInputs() {
        ButterLeaves x = Check.with("", "roll 2;fold 2;");
        int[] noRecipes = {-1, 1, 4, Integer.MIN_VALUE, Integer.MAX_VALUE};
        for (int r : noRecipes) {
            Check.dueMissing("step", () -> x.step(r, -1, -1));
            Check.dueMissing("steps", () -> x.steps(r, -1));
            Check.dueMissing("behind", () -> x.behind(r, -1, -1));
            Check.dueMissing("thin", () -> x.thin(r, -1));
            Check.dueMissing("leaf", () -> x.leaf(r, -1, -1, -1, -1));
            Check.dueMissing("most", () -> x.most(r, -1, -1));
            Check.dueMissing("least", () -> x.least(r, -1, -1));
            Check.dueMissing("having", () -> x.having(r, -1, -1));
            Check.dueMissing("kinds", () -> x.kinds(r, -1));
            Check.dueMissing("block", () -> x.block(r, -1));
            Check.dueMissing("joins", () -> x.joins(r, -1, -1));
            Check.dueMissing("weight", () -> x.weight(r, -1, -1, -1, -1));
            Check.dueMissing("trimmed", () -> x.trimmed(r, -1, -1));
        }
        int[] noSteps = {-1, 3, 21, Integer.MIN_VALUE, Integer.MAX_VALUE};
        for (int k : noSteps) {
            Check.dueOutside("step", () -> x.step(0, k, -1));
            Check.dueOutside("behind", () -> x.behind(0, k, -1));
            Check.dueOutside("thin", () -> x.thin(0, k));
            Check.dueOutside("leaf", () -> x.leaf(0, k, 0, 0, -1));
            Check.dueOutside("most", () -> x.most(0, k, -1));
            Check.dueOutside("least", () -> x.least(0, k, -1));
            Check.dueOutside("having", () -> x.having(0, k, 1));
            Check.dueOutside("kinds", () -> x.kinds(0, k));
            Check.dueOutside("block", () -> x.block(0, k));
            Check.dueOutside("joins", () -> x.joins(0, k, -1));
            Check.dueOutside("weight", () -> x.weight(0, k, 0, 0, -1));
            Check.dueOutside("trimmed", () -> x.trimmed(0, k, -1));
        }
        Check.dueOutside("no third step", () -> x.step(0, 2, 0));
        int[][] noCells = {{-1, 0}, {0, -1}, {6, 0}, {0, 4}, {Integer.MAX_VALUE, 0}, {0, Integer.MIN_VALUE}};
        for (int[] cell : noCells) {
            Check.dueOutside("leaf", () -> x.leaf(0, 0, cell[0], cell[1], -1));
            Check.dueOutside("weight", () -> x.weight(0, 2, cell[0], cell[1], -1));
        }
        Check.due("a rolled cell", x.leaf(0, 1, 11, 3, 1), 1);
        noWhats(x);
    }

    private static void noWhats(ButterLeaves x) {
        int[] none = {-1, Integer.MIN_VALUE, Integer.MAX_VALUE};
        for (int what : none) {
            Check.dueIllegal("step", () -> x.step(0, 0, what));
            Check.dueIllegal("steps", () -> x.steps(0, what));
            Check.dueIllegal("behind", () -> x.behind(0, 0, what));
            Check.dueIllegal("leaf", () -> x.leaf(0, 0, 0, 0, what));
            Check.dueIllegal("most", () -> x.most(0, 0, what));
            Check.dueIllegal("least", () -> x.least(0, 0, what));
            Check.dueIllegal("joins", () -> x.joins(0, 0, what));
            Check.dueIllegal("weight", () -> x.weight(0, 0, 0, 0, what));
            Check.dueIllegal("trimmed", () -> x.trimmed(0, 0, what));
        }
        Check.dueIllegal("step 3", () -> x.step(0, 0, 3));
        Check.dueIllegal("steps 2", () -> x.steps(0, 2));
        Check.dueIllegal("behind 4", () -> x.behind(0, 0, 4));
        Check.dueIllegal("leaf 5", () -> x.leaf(0, 0, 0, 0, 5));
        Check.dueIllegal("most 3", () -> x.most(0, 0, 3));
        Check.dueIllegal("least 3", () -> x.least(0, 0, 3));
        Check.dueIllegal("joins 2", () -> x.joins(0, 0, 2));
        Check.dueIllegal("weight 2", () -> x.weight(0, 0, 0, 0, 2));
        Check.dueIllegal("trimmed 2", () -> x.trimmed(0, 0, 2));
    }

    /** Twenty steps: counts far beyond what a stack of leaves could be held as. */
    private static void longRun() {
        ButterLeaves x = Check.with("slab 12 12 0;weight 9999;", "roll 4;fold 4;".repeat(10));
        long power = 1L << 20;
        Check.due("thin", x.thin(0, 20), power);
        Check.due("butter", x.most(0, 20, 1), power);
        Check.due("dough", x.least(0, 20, 0), power + 1);
        Check.due("sheets", x.leaf(0, 20, 11, 11, 4), power);
        Check.due("weight above", x.weight(0, 20, 0, 0, 0), 1111);
        Check.due("weight below", x.weight(0, 20, 0, 0, 1), 16);
        Check.due("joins", x.joins(0, 20, 0), 10 * 3 * 12 * 12);
        ButterLeaves y = Check.with("slab 2 2 0;weight 9999;",
                "roll 4;roll 4;cut 9;roll 3;cut 9;cut 9;roll 4;roll 2;cut 9;cut 9;roll 4;cut 9;cut 9;roll 4;fold 4;");
        Check.due("rolls and cuts done", y.steps(0, 1), y.steps(0, 0));
        long above = y.trimmed(0, 15, 0);
        long below = y.trimmed(0, 15, 1);
        long left = 0;
        for (int column = 0; column < y.behind(0, 15, 0); column++) {
            for (int row = 0; row < y.behind(0, 15, 1); row++) {
                left += y.weight(0, 15, column, row, 0) * 4 * y.thin(0, 15) / y.weight(0, 15, column, row, 1);
            }
        }
        Check.due("what is left and what is trimmed is all", left + above * (4 * y.thin(0, 15) / below),
                9999L * 4 * y.thin(0, 15));
    }
}
