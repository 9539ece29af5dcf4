/** Promises 8 to 21 and 23 to 28, sentence by sentence: what is asked of recipes, slabs, ways and the bench. */
final class AskingSentences {
    private static final int[] FAR = {-1, Integer.MIN_VALUE, Integer.MAX_VALUE};

    private AskingSentences() {
    }

    static void all() {
        step();
        noSuchRecipe();
        noSuchStep();
        steps();
        behind();
        notDone();
        thin();
        leaf();
        most();
        least();
        having();
        kinds();
        block();
        joins();
        weight();
        trimmed();
        wrong();
        wrongOfThoseDone();
        latest();
        soonest();
        pass();
        fewest();
        bench();
        turnOf();
        anotherWhat();
    }

    private static void step() {
        Check.sentence("Promise 8", "Of the k-th STEP of a RECIPE: its kind (what 0: 0 roll, 1 fold, 2 book, 3 tuck, 4 cut, "
                + "5 turn, 6 rest, 7 stand), its number (1; 0 without), UNITS it takes (2).");
        ButterLeaves x = Check.with("", "stand 36;rest 35;turn;cut 9;tuck 8;book;fold 4;roll 3;");
        int[][] due = {{7, 36, 36}, {6, 35, 35}, {5, 0, 0}, {4, 9, 1}, {3, 8, 1}, {2, 0, 1}, {1, 4, 1}, {0, 3, 2}};
        for (int k = 0; k < due.length; k++) {
            for (int what = 0; what <= 2; what++) {
                Check.due("step(0, " + k + ", " + what + ")", x.step(0, k, what), due[k][what]);
            }
        }
        Check.due("also of those not done: book", x.wrong(0, 2) < 7 ? 1 : 0, 1);
        ButterLeaves y = Check.with("", "turn;".repeat(19) + "rest 7;");
        Check.due("the twentieth", y.step(0, 19, 1), 7);
    }

    private static void noSuchRecipe() {
        Check.sentence("Promise 8", "NoSuchElementException: no such RECIPE (so below, ahead of others).");
        missing(new ButterLeaves(), 0);
        missing(Check.with("", "turn;"), 1);
        missing(Check.with("", "turn;", "turn;", "turn;", "turn;"), 4);
        ButterLeaves x = Check.with("", "turn;");
        x.image();
        Check.recipe(x, "turn;");
        x.restore();
        missing(x, 1);
        for (int r : FAR) {
            missing(x, r);
        }
    }

    /** With each other argument wrong too, and with each of them right. */
    private static void missing(ButterLeaves x, int r) {
        for (int k = -1; k <= 0; k++) {
            int n = k;
            Check.dueMissing("step", () -> x.step(r, n, n));
            Check.dueMissing("steps", () -> x.steps(r, n));
            Check.dueMissing("behind", () -> x.behind(r, n, n));
            Check.dueMissing("thin", () -> x.thin(r, n));
            Check.dueMissing("leaf", () -> x.leaf(r, n, n, n, n));
            Check.dueMissing("most", () -> x.most(r, n, n));
            Check.dueMissing("least", () -> x.least(r, n, n));
            Check.dueMissing("having", () -> x.having(r, n, n));
            Check.dueMissing("kinds", () -> x.kinds(r, n));
            Check.dueMissing("block", () -> x.block(r, n));
            Check.dueMissing("joins", () -> x.joins(r, n, n));
            Check.dueMissing("weight", () -> x.weight(r, n, n, n, n));
            Check.dueMissing("trimmed", () -> x.trimmed(r, n, n));
            Check.dueMissing("wrong", () -> x.wrong(r, n));
            Check.dueMissing("latest", () -> x.latest(r));
        }
    }

    private static void noSuchStep() {
        Check.sentence("Promise 8", "IndexOutOfBoundsException: no such STEP.");
        ButterLeaves x = Check.with("", "turn;", "turn;".repeat(20), "book;turn;");
        for (int k : FAR) {
            Check.dueOutside("step " + k, () -> x.step(0, k, 0));
            Check.dueOutside("step " + k + ", also with a wrong what", () -> x.step(0, k, 3));
        }
        Check.dueOutside("one behind one", () -> x.step(0, 1, 0));
        Check.due("the last of twenty", x.step(1, 19, 0), 5);
        Check.dueOutside("one behind twenty", () -> x.step(1, 20, 0));
        Check.due("a step that is not done is a step", x.step(2, 1, 0), 5);
        Check.dueOutside("one behind it", () -> x.step(2, 2, 0));
    }

    private static void steps() {
        Check.sentence("Promise 9", "How many STEPS a RECIPE has (what 0), how many are done (1).");
        ButterLeaves x = Check.with("", "turn;", "turn;".repeat(20), "book;turn;", "roll 2;book;fold 2;rest 1;");
        int[][] due = {{1, 1}, {20, 20}, {2, 0}, {4, 2}};
        for (int r = 0; r < 4; r++) {
            Check.due("steps of " + r, x.steps(r, 0), due[r][0]);
            Check.due("done of " + r, x.steps(r, 1), due[r][1]);
        }
    }

    private static void behind() {
        Check.sentence("Promise 10", "Behind k STEPS: 0 X, 1 Y, 2 UNITS gone, 3 WARMTH.");
        ButterLeaves x = Check.with("slab 6 5 0;", "roll 2;turn;rest 5;fold 2;", "turn;".repeat(20));
        // 56, 70 and 10 by the rub: 80; then 72 66 61 57 54 in the box.
        int[][] due = {{6, 5, 0, 40}, {12, 5, 2, 80}, {5, 12, 2, 80}, {5, 12, 7, 54}};
        for (int k = 0; k < due.length; k++) {
            for (int what = 0; what <= 3; what++) {
                Check.due("behind(0, " + k + ", " + what + ")", x.behind(0, k, what), due[k][what]);
            }
        }
        Check.due("behind twenty", x.behind(1, 20, 0), 6);
        Check.due("behind nineteen", x.behind(1, 19, 0), 5);
    }

    private static void notDone() {
        Check.sentence("Promise 10", "IndexOutOfBoundsException: k is not 0 to those done (so below).");
        ButterLeaves x = Check.with("", "roll 2;book;fold 2;turn;");
        for (int k : new int[] {-1, 3, 4, 5, 20, 21, Integer.MIN_VALUE, Integer.MAX_VALUE}) {
            outside(x, 0, k);
        }
        outside(Check.with("", "book;"), 0, 1);
        outside(Check.with("", "turn;".repeat(20)), 0, 21);
        Check.due("behind those done", x.thin(0, 2), 2);
        Check.due("behind none", x.thin(0, 0), 1);
    }

    /** Also with a wrong cell or a wrong what. */
    private static void outside(ButterLeaves x, int r, int k) {
        for (int n : new int[] {-1, 0}) {
            Check.dueOutside("behind " + k, () -> x.behind(r, k, n));
            Check.dueOutside("thin " + k, () -> x.thin(r, k));
            Check.dueOutside("leaf " + k, () -> x.leaf(r, k, n, n, n));
            Check.dueOutside("most " + k, () -> x.most(r, k, n));
            Check.dueOutside("least " + k, () -> x.least(r, k, n));
            Check.dueOutside("having " + k, () -> x.having(r, k, n));
            Check.dueOutside("kinds " + k, () -> x.kinds(r, k));
            Check.dueOutside("block " + k, () -> x.block(r, k));
            Check.dueOutside("joins " + k, () -> x.joins(r, k, n));
            Check.dueOutside("weight " + k, () -> x.weight(r, k, n, n, n));
            Check.dueOutside("trimmed " + k, () -> x.trimmed(r, k, n));
        }
    }

    private static void thin() {
        Check.sentence("Promise 11", "THIN behind k STEPS.");
        ButterLeaves x = Check.with("slab 12 12 0;", "roll 4;fold 4;".repeat(10));
        for (int k = 0; k <= 20; k++) {
            Check.due("thin(0, " + k + ")", x.thin(0, k), 1L << 2 * ((k + 1) / 2));
        }
        // The thinnest of all: 11 rolls by 4.
        ButterLeaves y = Check.with("slab 3 3 0;", "roll 4;roll 4;turn;roll 4;roll 4;" + "fold 4;roll 4;".repeat(7));
        Check.due("all done", y.steps(0, 1), 19);
        Check.due("4 to the eleventh", y.thin(0, 19), 1L << 22);
    }

    private static void leaf() {
        Check.sentence("Promise 12", "Of a CELL behind k STEPS: 0 LEAVES of DOUGH, 1 of BUTTER, 2 which lies lowest, 3 on "
                + "top, 4 SHEETS.");
        ButterLeaves x = Check.with("slab 6 4 1;", "fold 3;turn;fold 2;");
        long[][] due = {{1, 0, 0, 0, 3}, {3, 2, 0, 0, 3}};
        for (int what = 0; what <= 4; what++) {
            Check.due("the rim: " + what, x.leaf(0, 1, 0, 0, what), due[0][what]);
            Check.due("within: " + what, x.leaf(0, 1, 0, 1, what), due[1][what]);
        }
        Check.due("six in one: butter", x.leaf(0, 3, 1, 1, 1), 4);
        Check.due("six in one: dough", x.leaf(0, 3, 1, 1, 0), 5);
        Check.due("six in one: sheets", x.leaf(0, 3, 1, 1, 4), 6);
        Check.sentence("Promise 12", "IndexOutOfBoundsException: also no such CELL.");
        ButterLeaves y = Check.with("slab 6 4 1;", "roll 2;turn;");
        int[][] size = {{6, 4}, {12, 4}, {4, 12}};
        for (int step = 0; step < size.length; step++) {
            int k = step;
            noSuchCell(y, k, -1, 0);
            noSuchCell(y, k, 0, -1);
            noSuchCell(y, k, size[k][0], 0);
            noSuchCell(y, k, 0, size[k][1]);
            noSuchCell(y, k, size[k][0] - 1, Integer.MAX_VALUE);
            noSuchCell(y, k, Integer.MIN_VALUE, 0);
            noSuchCell(y, k, 48, 48);
            Check.due("the last cell", y.leaf(0, k, size[k][0] - 1, size[k][1] - 1, 4), 1);
            Check.due("the first cell", y.leaf(0, k, 0, 0, 4), 1);
            Check.due("the last column, first row", y.leaf(0, k, size[k][0] - 1, 0, 4), 1);
            Check.due("the first column, last row", y.leaf(0, k, 0, size[k][1] - 1, 4), 1);
        }
    }

    private static void noSuchCell(ButterLeaves x, int k, int column, int row) {
        for (int what : new int[] {-1, 0, 1, 5}) {
            Check.dueOutside("leaf", () -> x.leaf(0, k, column, row, what));
            Check.dueOutside("weight", () -> x.weight(0, k, column, row, what));
        }
    }

    // ---- all cells together

    private static void most() {
        Check.sentence("Promise 13", "The most of a CELL: 0 LEAVES of DOUGH, 1 of BUTTER, 2 SHEETS.");
        ButterLeaves x = Check.with("slab 9 9 1;", "tuck 2;turn;tuck 1;cut 1;");
        long[][] due = {{2, 1, 1}, {3, 2, 2}, {3, 2, 2}, {3, 2, 4}, {3, 2, 2}};
        extremes(x, due, true);
        ButterLeaves y = Check.with("slab 8 8 3;", "fold 2;cut 1;");
        Check.due("no butter", y.most(0, 2, 1), 0);
        Check.due("one of dough", y.most(0, 2, 0), 1);
    }

    private static void least() {
        Check.sentence("Promise 14", "The least, likewise.");
        ButterLeaves x = Check.with("slab 9 9 1;", "tuck 2;turn;tuck 1;cut 1;");
        // 2 1 1 1 2 one way behind the first tuck, 0 1 1 1 1 1 1 1 0 the other way, till the second tuck takes it in.
        long[][] due = {{1, 0, 1}, {1, 0, 1}, {1, 0, 1}, {2, 1, 1}, {2, 1, 1}};
        extremes(x, due, false);
        // 0 2 2 2 2 2 one way, all of them 1 the other way: the first row alone has none.
        ButterLeaves y = Check.with("slab 12 12 1;", "fold 2;turn;tuck 1;cut 1;");
        Check.due("no butter in the first row", y.least(0, 4, 1), 0);
        Check.due("nor in another", y.having(0, 4, 0), y.behind(0, 4, 0));
        Check.due("one of dough there", y.least(0, 4, 0), 1);
    }

    private static void extremes(ButterLeaves x, long[][] due, boolean most) {
        for (int k = 0; k < due.length; k++) {
            for (int what = 0; what <= 2; what++) {
                Check.due((most ? "most" : "least") + "(0, " + k + ", " + what + ")",
                        most ? x.most(0, k, what) : x.least(0, k, what), due[k][what]);
            }
        }
    }

    private static void having() {
        Check.sentence("Promise 15", "How many CELLS have just n LEAVES of BUTTER.");
        ButterLeaves x = Check.with("slab 9 7 1;", "tuck 2;");
        // 2 1 1 1 2 in five rows, and two rows of rim.
        int[] due = {10, 15, 10, 0};
        for (int n = 0; n < due.length; n++) {
            Check.due("having " + n, x.having(0, 1, n), due[n]);
        }
        Check.due("having -1", x.having(0, 1, -1), 0);
        Check.due("having the least", x.having(0, 1, Long.MIN_VALUE), 0);
        Check.due("having the most", x.having(0, 1, Long.MAX_VALUE), 0);
        Check.due("2 to the 32nd is not 0", x.having(0, 1, 1L << 32), 0);
        Check.due("nor is it 1", x.having(0, 1, (1L << 32) + 1), 0);
        ButterLeaves y = Check.with("slab 12 12 0;", "roll 4;turn;roll 4;");
        Check.due("all there can be", y.having(0, 3, 1), 2304);
    }

    private static void kinds() {
        Check.sentence("Promise 16", "How many unlike stacks there are (by LEAVES of both kinds, the lowest and the top "
                + "kind).");
        Check.due("one", Check.with("slab 5 5 0;", "turn;").kinds(0, 0), 1);
        Check.due("two", Check.with("slab 5 5 1;", "turn;").kinds(0, 0), 2);
        ButterLeaves x = Check.with("slab 9 9 0;", "tuck 1;turn;tuck 2;cut 2;");
        int[] due = {1, 2, 2, 3, 2};
        for (int k = 0; k < due.length; k++) {
            Check.due("kinds(0, " + k + ")", x.kinds(0, k), due[k]);
        }
        // Sheets do not make stacks unlike: rims of one and of two sheets are both one leaf.
        Check.due("rims", Check.with("slab 8 8 2;", "tuck 1;").kinds(0, 1), 2);
        // 2 by 4 and 4 by 2 are alike.
        ButterLeaves y = Check.with("slab 12 12 0;", "fold 2;tuck 1;turn;fold 2;tuck 1;");
        Check.due("2 and 4 both ways: 4 8 16", y.kinds(0, 5), 3);
    }

    private static void block() {
        Check.sentence("Promise 17", "The greatest block of CELLS, all of the most LEAVES of BUTTER: how many CELLS (a whole "
                + "rectangle).");
        ButterLeaves x = Check.with("slab 9 7 1;", "tuck 2;turn;tuck 1;");
        // 7 by 5; then columns 0 and 4 of 2, in 5 rows.
        Check.due("within the rim", x.block(0, 0), 35);
        Check.due("one column", x.block(0, 1), 5);
        Check.due("turned", x.block(0, 2), 5);
        Check.due("all five, none of them of rim", x.block(0, 3), 5);
        ButterLeaves y = Check.with("slab 8 8 3;", "fold 2;cut 1;");
        Check.due("no butter: all cells have the most", y.block(0, 2), 16);
        Check.due("all cells", Check.with("slab 12 12 0;", "roll 4;").block(0, 1), 576);
        // 2 2 1 2 2 both ways: two by two at a corner, not all sixteen.
        ButterLeaves z = Check.with("slab 9 9 0;", "tuck 2;turn;tuck 2;");
        Check.due("16 have the most", z.having(0, 3, 4), 16);
        Check.due("4 lie together", z.block(0, 3), 4);
        // 4 2 2 2 2 behind the fold, 6 2 4 behind the tuck.
        ButterLeaves w = Check.with("slab 12 3 0;", "tuck 1;fold 2;tuck 1;");
        Check.due("the first column", w.block(0, 2), 3);
        Check.due("the first column again", w.block(0, 3), 3);
        // 0 2 2 behind the fold: the row ends with the last column.
        ButterLeaves v = Check.with("slab 6 5 1;", "fold 2;");
        Check.due("two columns of three", v.block(0, 1), 6);
    }

    private static void joins() {
        Check.sentence("Promise 18", "JOINS in all STEPS to the k-th, of CELLS as they are laid: of DOUGH (what 0), of BUTTER "
                + "(1).");
        ButterLeaves x = Check.with("slab 12 5 1;", "turn;turn;roll 2;fold 2;tuck 1;cut 1;fold 4;turn;rest 1;");
        // In 5 rows: 12 columns laid by fold 2, two by the tuck, four and two by fold 4.
        long[] due = {0, 0, 0, 0, 60, 70, 70, 100, 100, 100};
        for (int k = 0; k < due.length; k++) {
            Check.due("joins(0, " + k + ", 0)", x.joins(0, k, 0), due[k]);
            Check.due("joins(0, " + k + ", 1)", x.joins(0, k, 1), 0);
        }
        ButterLeaves y = Check.with("slab 12 5 2;", "fold 3;");
        Check.due("fold 3: two of four columns of five", y.joins(0, 1, 0), 40);
        ButterLeaves z = Check.with("slab 12 5 2;", "book;");
        Check.due("book: six columns, then three", z.joins(0, 1, 0), 45);
    }

    private static void weight() {
        Check.sentence("Promise 19", "WEIGHT of a CELL in grams, a fraction in least terms: above (what 0), below (1).");
        ButterLeaves x = Check.with("slab 12 12 0;weight 9999;", "roll 4;", "fold 4;");
        Check.due("9,999 by 144 above", x.weight(0, 0, 0, 0, 0), 1111);
        Check.due("9,999 by 144 below", x.weight(0, 0, 0, 0, 1), 16);
        Check.due("by 576 above", x.weight(0, 1, 47, 11, 0), 1111);
        Check.due("by 576 below", x.weight(0, 1, 47, 11, 1), 64);
        Check.due("by 36 above", x.weight(1, 1, 2, 11, 0), 1111);
        Check.due("by 36 below", x.weight(1, 1, 2, 11, 1), 4);
        ButterLeaves y = Check.with("slab 2 2 0;weight 1;", "turn;");
        Check.due("1 by 4 above", y.weight(0, 0, 0, 0, 0), 1);
        Check.due("1 by 4 below", y.weight(0, 0, 0, 0, 1), 4);
        ButterLeaves z = Check.with("slab 2 2 0;weight 8;", "turn;");
        Check.due("2 by 1 above", z.weight(0, 0, 0, 0, 0), 2);
        Check.due("2 by 1 below", z.weight(0, 0, 0, 0, 1), 1);
        Check.due("a new kitchen weighs anew", Check.kitchen(z, "slab 2 3 0;weight 9;"), 6);
        Check.due("3 by 2 above", z.weight(0, 0, 0, 0, 0), 3);
        Check.due("3 by 2 below", z.weight(0, 0, 0, 0, 1), 2);
    }

    private static void trimmed() {
        Check.sentence("Promise 20", "TRIMMED, likewise (0 by 1 without).");
        ButterLeaves x = Check.with("slab 5 7 0;weight 10;", "roll 2;cut 4;turn;cut 3;");
        long[][] due = {{0, 1}, {0, 1}, {8, 1}, {8, 1}, {68, 7}};
        for (int k = 0; k < due.length; k++) {
            Check.due("above behind " + k, x.trimmed(0, k, 0), due[k][0]);
            Check.due("below behind " + k, x.trimmed(0, k, 1), due[k][1]);
        }
        ButterLeaves y = Check.with("weight 9999;", "turn;");
        Check.due("0 without a cut", y.trimmed(0, 1, 0), 0);
        Check.due("by 1", y.trimmed(0, 1, 1), 1);
    }

    // ---- what goes wrong

    private static void wrong() {
        Check.sentence("Promise 21", "The first STEP in which it BREAKS (what 0), RUNS (1), that is STUCK (2); NONE.");
        ButterLeaves x = Check.with("slab 12 2 0;high 10;", "turn;roll 2;roll 2;stand 9;stand 9;rest 9;roll 2;roll 2;",
                "rest 3;", "stand 3;roll 2;", "stand 36;book;cut 9;");
        int[][] due = {{1, 2, -1}, {-1, -1, -1}, {-1, 1, -1}, {-1, 0, 2}};
        // Two columns, turned: 4, 8, 16, 32 by four rolls.
        for (int r = 0; r < due.length; r++) {
            for (int what = 0; what <= 2; what++) {
                Check.due("wrong(" + r + ", " + what + ")", x.wrong(r, what), due[r][what]);
            }
        }
        ButterLeaves y = Check.with("slab 2 2 0;low 40;high 40;", "turn;".repeat(19) + "roll 2;", "turn;".repeat(19) + "cut 1;");
        Check.due("the twentieth breaks", y.wrong(0, 0), 19);
        Check.due("the twentieth is stuck", y.wrong(1, 2), 19);
    }

    private static void wrongOfThoseDone() {
        Check.sentence("Promise 21", "(Of those done; STUCK by those not.)");
        ButterLeaves x = Check.with("", "book;roll 2;", "roll 2;book;fold 4;", "book;turn;");
        Check.due("the roll that would break is not done", x.wrong(0, 0), -1);
        Check.due("stuck", x.wrong(0, 2), 0);
        Check.due("the roll that breaks is done", x.wrong(1, 0), 0);
        Check.due("stuck behind two", x.wrong(1, 2), 2);
        // The step that is stuck would itself break, or run.
        ButterLeaves y = Check.with("slab 12 2 0;high 40;", "stand 9;roll 4;rest 36;roll 2;");
        Check.due("cold behind the rest", y.behind(0, 3, 3) < 80 ? 1 : 0, 1);
        Check.due("the stuck roll does not break", y.wrong(0, 0), -1);
        Check.due("it is stuck", y.wrong(0, 2), 3);
        ButterLeaves z = Check.with("box 19;", "book;");
        Check.due("the stuck step does not run", z.wrong(0, 1), -1);
        Check.due("it is stuck too", z.wrong(0, 2), 0);
    }

    private static void latest() {
        Check.sentence("Promise 23", "LATEST; NONE.");
        ButterLeaves x = Check.with("room 0 40;room 20 4;room 21 40;high 4;", "stand 12;", "stand 13;", "stand 1;", "book;");
        Check.due("the whole of hour 20", x.latest(0), 240);
        Check.due("more than an hour", x.latest(1), -1);
        Check.due("the last unit of hour 20", x.latest(2), 251);
        Check.due("stuck", x.latest(3), -1);
        Check.due("asked again", x.latest(0), 240);
        Check.kitchen(x, "slab 8 2 0;");
        Check.due("in another kitchen", x.latest(3), 287);
        Check.due("still on the bench for 12 units", x.latest(0), 287);
        Check.kitchen(x, "high 4;");
        Check.due("and in another", x.latest(0), -1);
    }

    // ---- ways and the bench

    private static void soonest() {
        Check.sentence("Promise 24", "SOONEST way: 0 UNITS, 1 PASSES; NONE: there is none.");
        ButterLeaves x = Check.with("low 2;high 30;");
        Check.due("units", x.soonest(27, 0), 9);
        Check.due("passes", x.soonest(27, 1), 3);
        Check.due("none to 5, units", x.soonest(5, 0), -1);
        Check.due("none to 5, passes", x.soonest(5, 1), -1);
        Check.due("asked again", x.soonest(27, 0), 9);
        Check.due("a longer one behind a shorter one", x.soonest(729, 1), 6);
        Check.due("a shorter one behind a longer one", x.soonest(2, 0), 3);
        Check.kitchen(x, "low 40;high 0;");
        Check.due("none in another kitchen, units", x.soonest(27, 0), -1);
        Check.due("none in another kitchen, passes", x.soonest(27, 1), -1);
        Check.due("but to 1", x.soonest(1, 0), 0);
        Check.sentence("Promise 24", "IllegalArgumentException: n (so of the next).");
        for (int n : new int[] {0, -1, 1025, Integer.MIN_VALUE, Integer.MAX_VALUE}) {
            for (int what : new int[] {0, 1, -1}) {
                Check.dueIllegal("soonest(" + n + ", " + what + ")", () -> x.soonest(n, what));
                Check.dueIllegal("pass(" + n + ", " + what + ")", () -> x.pass(n, what));
                Check.dueIllegal("fewest(" + n + ", " + what + ")", () -> x.fewest(n, what));
            }
        }
        Check.due("1 is such", x.pass(1, 0), -1);
        Check.due("1,024 is such", x.pass(1024, 0), -1);
    }

    private static void pass() {
        Check.sentence("Promise 25", "Its i-th PASS: 10 times the wait, and f;");
        ButterLeaves x = Check.with("box 9;low 4;high 13;rub 41;room 0 6;");
        int[] due = {2, 183, 194};
        for (int i = 0; i < due.length; i++) {
            Check.due("pass(24, " + i + ")", x.pass(24, i), due[i]);
        }
        Check.due("asked alone", Check.with("box 9;low 4;high 13;rub 41;room 0 6;").pass(24, 2), 194);
        Check.due("a stand of three, f 3", new ButterLeaves().pass(3, 0), 153);
        Check.sentence("Promise 25", "NONE: none such.");
        for (int i : new int[] {-1, 3, 4, 6, 7, Integer.MIN_VALUE, Integer.MAX_VALUE}) {
            Check.due("pass(24, " + i + ")", x.pass(24, i), -1);
        }
        Check.due("no way to 5", x.pass(5, 0), -1);
        Check.due("no pass to 1", x.pass(1, 0), -1);
        ButterLeaves y = Check.with("low 3;high 9;rub 5;");
        Check.due("no second pass, so no first", y.pass(6, 0), -1);
    }

    private static void fewest() {
        Check.sentence("Promise 26", "FEWEST: 0 UNITS, 1 PASSES; NONE.");
        ButterLeaves x = Check.with("low 2;high 30;");
        Check.due("units", x.fewest(12, 0), 6);
        Check.due("passes", x.fewest(12, 1), 2);
        Check.due("none to 7, units", x.fewest(7, 0), -1);
        Check.due("none to 7, passes", x.fewest(7, 1), -1);
        x.begin(0);
        Check.due("from another unit", x.fewest(12, 0), 6);
        Check.kitchen(x, "low 40;high 0;");
        Check.due("none in another kitchen", x.fewest(12, 0), -1);
    }

    private static void bench() {
        Check.sentence("Promise 27", "BENCH: the UNIT behind which all are done (what 0), how many BLOCKS (1), UNITS the bench "
                + "stands idle till its last BLOCK ends (2);");
        ButterLeaves x = Check.with("", "roll 2;rest 3;fold 2;rest 9;", "roll 3;rest 1;cut 1;");
        Check.due("done", x.bench(0), 15);
        Check.due("blocks", x.bench(1), 4);
        // 0 0 1 1 is done with the last rest of recipe 0, as are all others: the bench is idle from 2 to 5, and from 8 to 9.
        Check.due("idle, but not with the last rests", x.bench(2), 4);
        x.begin(100);
        Check.due("whenever it begins", x.bench(0), 15);
        Check.kitchen(x, "slab 2 2 0;");
        Check.due("in whatever kitchen", x.bench(0), 15);
        Check.recipe(x, "rest 20;");
        Check.due("with one more", x.bench(0), 20);
        Check.due("it is never on the bench", x.bench(2), 4);
        Check.due("no recipes", new ButterLeaves().bench(0), 0);
        String all = "stand 36;".repeat(20);
        ButterLeaves y = Check.with("", all, all, all, all);
        Check.due("the longest", y.bench(0), 2880);
        Check.sentence("Promise 27", "NONE.");
        ButterLeaves z = Check.with("", "cut 1;rest 1;".repeat(10), "cut 1;rest 1;".repeat(3));
        for (int what = 0; what <= 2; what++) {
            Check.due("13 blocks: " + what, z.bench(what), -1);
        }
    }

    private static void turnOf() {
        Check.sentence("Promise 28", "The i-th BLOCK in that order: 1,000 times the RECIPE, and the UNIT at which it begins;");
        ButterLeaves x = Check.with("", "roll 2;rest 3;fold 2;", "roll 3;rest 1;cut 1;");
        int[] due = {0, 1002, 5, 1006};
        for (int i = 0; i < due.length; i++) {
            Check.due("turnOf(" + i + ")", x.turnOf(i), due[i]);
        }
        Check.due("asked alone", Check.with("", "rest 2;cut 1;").turnOf(0), 2);
        String all = "stand 36;".repeat(20);
        ButterLeaves y = Check.with("", all, all, all, all);
        Check.due("a unit beyond 1,000", y.turnOf(3), 3000 + 2160);
        Check.sentence("Promise 28", "NONE: none such.");
        for (int i : new int[] {-1, 4, 5, 12, 13, Integer.MIN_VALUE, Integer.MAX_VALUE}) {
            Check.due("turnOf(" + i + ")", x.turnOf(i), -1);
        }
        Check.due("no recipes", new ButterLeaves().turnOf(0), -1);
        Check.due("13 blocks", Check.with("", "cut 1;rest 1;".repeat(10), "cut 1;rest 1;".repeat(3)).turnOf(0), -1);
    }

    private static void anotherWhat() {
        Check.sentence("Promise 6", "IllegalArgumentException: another what (so below).");
        ButterLeaves x = Check.with("", "turn;");
        for (int what : FAR) {
            noSuchWhat(x, what, what, what, what, what);
        }
        noSuchWhat(x, 2, 3, 4, 5, 2);
        noSuchWhat(x, 3, 4, 5, 6, 3);
    }

    /** Each what one above the greatest of its call: of two, of three, of four, of five; and of a way. */
    private static void noSuchWhat(ButterLeaves x, int two, int three, int four, int five, int way) {
        Check.dueIllegal("steps", () -> x.steps(0, two));
        Check.dueIllegal("joins", () -> x.joins(0, 0, two));
        Check.dueIllegal("weight", () -> x.weight(0, 0, 0, 0, two));
        Check.dueIllegal("trimmed", () -> x.trimmed(0, 0, two));
        Check.dueIllegal("step", () -> x.step(0, 0, three));
        Check.dueIllegal("most", () -> x.most(0, 0, three));
        Check.dueIllegal("least", () -> x.least(0, 0, three));
        Check.dueIllegal("wrong", () -> x.wrong(0, three));
        Check.dueIllegal("bench", () -> x.bench(three));
        Check.dueIllegal("behind", () -> x.behind(0, 0, four));
        Check.dueIllegal("leaf", () -> x.leaf(0, 0, 0, 0, five));
        Check.dueIllegal("soonest", () -> x.soonest(3, way));
        Check.dueIllegal("soonest where there is none", () -> x.soonest(5, way));
        Check.dueIllegal("soonest to 1", () -> x.soonest(1, way));
        Check.dueIllegal("fewest", () -> x.fewest(3, way));
        Check.dueIllegal("fewest where there is none", () -> x.fewest(5, way));
    }
}
