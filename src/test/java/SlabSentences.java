import java.math.BigInteger;

/** Part 2 of 'Terms', sentence by sentence: the slab, what each step does to it, where it is stuck, weights. */
final class SlabSentences {
    private static final String PART = "Terms 2";
    /** Steps behind which the columns of 12 are a number that 4 parts, and unlike those at the other end. */
    private static final String[] UNLIKE = {"fold 3;", "fold 2;roll 2;", "fold 2;roll 4;", "fold 2;roll 4;cut 2;",
        "fold 2;roll 4;tuck 2;", "fold 2;roll 4;tuck 4;", "fold 2;roll 3;cut 1;", "fold 2;roll 3;tuck 1;", "tuck 1;fold 2;roll 4;",
        "tuck 1;fold 2;roll 4;cut 2;", "fold 2;tuck 1;roll 3;", "fold 2;tuck 1;roll 4;cut 2;", "fold 2;roll 4;tuck 5;roll 2;cut 4;"};

    private SlabSentences() {
    }

    static void all() {
        leaves();
        firstCells();
        joins();
        sheetsAndThin();
        roll();
        foldTwo();
        foldThree();
        foldFour();
        book();
        tuck();
        cut();
        turn();
        numbers();
        rollStuck();
        foldStuck();
        tuckStuck();
        cutStuck();
        stuck();
        weights();
        trimmed();
        againstStacks();
    }

    /** Sheets and butter of each column behind all steps, in a row that has butter at first. */
    private static void columns(String kitchen, String recipe, long[] sheets, long[] butter) {
        ButterLeaves x = Check.with(kitchen, recipe);
        int k = x.steps(0, 1);
        int row = x.told(2);
        Check.due(kitchen + recipe + " all done", k, x.steps(0, 0));
        Check.due(kitchen + recipe + " X", x.behind(0, k, 0), sheets.length);
        for (int i = 0; i < sheets.length; i++) {
            Check.due(kitchen + recipe + " sheets of column " + i, x.leaf(0, k, i, row, 4), sheets[i]);
            Check.due(kitchen + recipe + " butter of column " + i, x.leaf(0, k, i, row, 1), butter[i]);
            Check.due(kitchen + recipe + " dough of column " + i, x.leaf(0, k, i, row, 0), butter[i] + 1);
        }
    }

    private static long[] of(long... numbers) {
        return numbers;
    }

    private static void leaves() {
        Check.sentence(PART, "A SLAB: CELLS, each a stack of LEAVES, of DOUGH (0) or BUTTER (1).");
        ButterLeaves x = Check.with("slab 3 3 1;", "turn;");
        Check.due("dough in the middle", x.leaf(0, 0, 1, 1, 0), 2);
        Check.due("butter in the middle", x.leaf(0, 0, 1, 1, 1), 1);
        Check.due("the lowest is dough", x.leaf(0, 0, 1, 1, 2), 0);
        Check.due("the top is dough", x.leaf(0, 0, 1, 1, 3), 0);
    }

    private static void firstCells() {
        Check.sentence(PART, "At first: a CELL less than R from an edge has one LEAF of DOUGH;");
        firstCells(9, 7, 0);
        firstCells(9, 7, 1);
        firstCells(9, 7, 2);
        firstCells(9, 7, 3);
        firstCells(12, 8, 3);
        firstCells(7, 7, 3);
        Check.sentence(PART, "others DOUGH, BUTTER, DOUGH.");
        firstCells(2, 2, 0);
        firstCells(12, 12, 0);
        firstCells(3, 3, 1);
    }

    private static void firstCells(int across, int down, int rim) {
        ButterLeaves x = null;
        for (int i = 0; i < across; i++) {
            x = Check.with("slab " + across + " " + down + " " + rim + ";", "turn;");
            for (int j = 0; j < down; j++) {
                boolean less = i < rim || j < rim || across - 1 - i < rim || down - 1 - j < rim;
                String cell = "rim " + rim + ", cell " + i + ", " + j;
                Check.due(cell + ": dough", x.leaf(0, 0, i, j, 0), less ? 1 : 2);
                Check.due(cell + ": butter", x.leaf(0, 0, i, j, 1), less ? 0 : 1);
                Check.due(cell + ": lowest", x.leaf(0, 0, i, j, 2), 0);
                Check.due(cell + ": top", x.leaf(0, 0, i, j, 3), 0);
            }
        }
        Check.due("cells with butter", x.having(0, 0, 1), (across - 2 * rim) * (down - 2 * rim));
    }

    private static void joins() {
        Check.sentence(PART, "Where a stack is laid upon another one, and the lower one's top and the upper one's bottom "
                + "are of one kind, both LEAVES JOIN to one.");
        ButterLeaves x = Check.with("slab 4 4 0;", "fold 2;fold 2;");
        Check.due("two of three leaves: 5", x.leaf(0, 1, 0, 0, 0) + x.leaf(0, 1, 0, 0, 1), 5);
        Check.due("two of five leaves: 9", x.leaf(0, 2, 0, 0, 0) + x.leaf(0, 2, 0, 0, 1), 9);
        ButterLeaves y = Check.with("slab 4 4 1;", "fold 4;turn;fold 4;");
        Check.due("a rim of dough alone stays one leaf", y.leaf(0, 1, 0, 0, 0), 1);
        Check.due("rim, butter, butter, rim: 3 of dough", y.leaf(0, 1, 0, 1, 0), 3);
        Check.due("all sixteen: 5 of dough", y.leaf(0, 3, 0, 0, 0), 5);
        Check.due("all sixteen: 4 of butter", y.leaf(0, 3, 0, 0, 1), 4);
        Check.sentence(PART, "TURNED over, a stack has its LEAVES the other way round.");
        Check.due("dough is lowest behind it", y.leaf(0, 3, 0, 0, 2), 0);
        Check.due("dough is on top behind it", y.leaf(0, 3, 0, 0, 3), 0);
        Check.due("so all laid join by dough", y.joins(0, 3, 0), 15);
        Check.due("and none by butter", y.joins(0, 3, 1), 0);
    }

    private static void sheetsAndThin() {
        Check.sentence(PART, "SHEETS of a CELL: how many first CELLS lie in it (1 at first), all together.");
        ButterLeaves x = Check.with("slab 8 6 1;", "roll 3;fold 4;turn;fold 3;tuck 1;cut 1;");
        Check.due("1 at first", x.leaf(0, 0, 0, 0, 4), 1);
        Check.due("1 in all", x.most(0, 0, 2), 1);
        Check.due("a roll lays none", x.most(0, 1, 2), 1);
        Check.due("4 behind fold 4", x.least(0, 2, 2), 4);
        Check.due("12 behind fold 3 the other way", x.leaf(0, 4, 1, 5, 4), 12);
        Check.due("no tuck in 2 columns", x.steps(0, 1), 4);
        Check.sentence(PART, "THIN: how often it is thinner than at first (1; times N by each roll).");
        ButterLeaves y = Check.with("slab 2 2 0;", "roll 2;roll 3;fold 3;turn;roll 4;rest 1;cut 3;roll 2;");
        long[] thin = {1, 2, 6, 6, 6, 24, 24, 24, 48};
        for (int k = 0; k < thin.length; k++) {
            Check.due("thin behind " + k, y.thin(0, k), thin[k]);
        }
    }

    private static void roll() {
        Check.sentence(PART, "roll N: each CELL becomes N, one beside the other along X (all alike).");
        columns("slab 5 3 1;", "roll 2;", of(1, 1, 1, 1, 1, 1, 1, 1, 1, 1), of(0, 0, 1, 1, 1, 1, 1, 1, 0, 0));
        columns("slab 3 3 1;", "roll 3;", of(1, 1, 1, 1, 1, 1, 1, 1, 1), of(0, 0, 0, 1, 1, 1, 0, 0, 0));
        columns("slab 3 3 1;", "roll 4;", of(1, 1, 1, 1, 1, 1, 1, 1, 1, 1, 1, 1),
                of(0, 0, 0, 0, 1, 1, 1, 1, 0, 0, 0, 0));
        columns("slab 6 3 1;", "fold 2;roll 2;", of(2, 2, 2, 2, 2, 2), of(0, 0, 2, 2, 2, 2));
        ButterLeaves x = Check.with("slab 5 6 2;", "roll 2;");
        Check.due("Y stays", x.behind(0, 1, 1), 6);
        Check.due("a row of the rim stays so", x.leaf(0, 1, 5, 1, 1), 0);
        Check.due("a row within stays so", x.leaf(0, 1, 5, 2, 1), 1);
    }

    private static void foldTwo() {
        Check.sentence(PART, "fold 2: the right half is TURNED over onto the left one (the CELL at the right end onto "
                + "that at the left end, and so on inward).");
        columns("slab 8 3 1;", "fold 2;", of(2, 2, 2, 2), of(0, 2, 2, 2));
        columns("slab 12 7 3;", "fold 2;", of(2, 2, 2, 2, 2, 2), of(0, 0, 0, 2, 2, 2));
        // Behind a tuck the ends have two sheets, and they meet.
        columns("slab 8 2 0;", "tuck 1;fold 2;", of(4, 2, 2), of(4, 2, 2));
        // 0 2 2, then 0 0 2 2 2 2, then 0 and 2, 0 and 2, 2 and 2.
        columns("slab 6 3 1;", "fold 2;roll 2;fold 2;", of(4, 4, 4), of(2, 2, 4));
        columns("slab 2 2 0;", "fold 2;", of(2), of(2));
    }

    private static void foldThree() {
        Check.sentence(PART, "fold 3: the right third TURNED over onto the middle one, then the left third TURNED over on "
                + "top.");
        // 0 1 1, 1 1 1, 1 1 0: the ends lie on the cells beside the other third.
        columns("slab 9 3 1;", "fold 3;", of(3, 3, 3), of(2, 3, 2));
        columns("slab 12 7 3;", "fold 3;", of(3, 3, 3, 3), of(2, 1, 1, 2));
        // 0 2 2 2 2 2: only the left end is without butter.
        columns("slab 12 3 1;", "fold 2;fold 3;", of(6, 6), of(6, 4));
        columns("slab 8 2 0;", "tuck 1;fold 3;", of(4, 4), of(4, 4));
        columns("slab 11 2 0;", "tuck 1;fold 3;", of(4, 3, 4), of(4, 3, 4));
        columns("slab 3 2 0;", "fold 3;", of(3), of(3));
    }

    private static void foldFour() {
        Check.sentence(PART, "fold 4: fold 2, and fold 2 again.");
        columns("slab 8 3 1;", "fold 4;", of(4, 4), of(2, 4));
        columns("slab 12 3 1;", "fold 4;", of(4, 4, 4), of(2, 4, 4));
        columns("slab 12 2 0;", "tuck 1;roll 2;fold 4;", of(6, 6, 4, 4, 4), of(6, 6, 4, 4, 4));
        columns("slab 4 2 0;", "fold 4;", of(4), of(4));
        // Ends that are unlike: 0 2 2 2, then 0 0 2 2 2 2 2 2, and others behind a cut or a tuck.
        for (String ahead : UNLIKE) {
            int k = ahead.split(";").length;
            ButterLeaves x = Check.with("slab 12 5 1;", ahead + "fold 4;", ahead + "fold 2;fold 2;");
            Check.due(ahead + " all done", x.steps(0, 1) + x.steps(1, 1), 2 * k + 3);
            for (int i = 0; i < x.behind(0, k + 1, 0); i++) {
                Check.due(ahead + " sheets " + i, x.leaf(0, k + 1, i, 1, 4), x.leaf(1, k + 2, i, 1, 4));
                Check.due(ahead + " butter " + i, x.leaf(0, k + 1, i, 1, 1), x.leaf(1, k + 2, i, 1, 1));
                Check.due(ahead + " joins", x.joins(0, k + 1, 0), x.joins(1, k + 2, 0));
            }
        }
    }

    private static void book() {
        Check.sentence(PART, "book: the outer quarters TURNED over onto the inner ones beside them, then the right half "
                + "TURNED over onto the left one.");
        columns("slab 8 3 1;", "book;", of(4, 4), of(4, 2));
        columns("slab 12 3 1;", "book;", of(4, 4, 4), of(4, 4, 2));
        columns("slab 12 7 3;", "book;", of(4, 4, 4), of(2, 2, 2));
        columns("slab 12 2 0;", "tuck 1;roll 2;book;", of(4, 4, 4, 6, 6), of(4, 4, 4, 6, 6));
        columns("slab 4 2 0;", "book;", of(4), of(4));
        // 0 0 2 2 2 2 2 2 2 2 2 2: the two without butter lie on the second and the third.
        columns("slab 12 3 1;", "fold 2;roll 2;book;", of(8, 8, 8), of(8, 6, 6));
    }

    private static void tuck() {
        Check.sentence(PART, "tuck N: N columns at both ends are TURNED over onto the next N.");
        columns("slab 9 3 1;", "tuck 2;", of(2, 2, 1, 2, 2), of(2, 1, 1, 1, 2));
        columns("slab 8 3 1;", "tuck 2;", of(2, 2, 2, 2), of(2, 1, 1, 2));
        columns("slab 6 3 1;", "tuck 1;", of(2, 1, 1, 2), of(1, 1, 1, 1));
        columns("slab 12 3 1;", "fold 2;tuck 1;", of(4, 2, 2, 4), of(2, 2, 2, 4));
        columns("slab 4 2 0;", "tuck 1;", of(2, 2), of(2, 2));
        columns("slab 12 3 1;", "roll 3;tuck 9;", of(2, 2, 2, 2, 2, 2, 2, 2, 2, 2, 2, 2, 2, 2, 2, 2, 2, 2),
                of(2, 2, 2, 2, 2, 2, 1, 1, 1, 1, 1, 1, 2, 2, 2, 2, 2, 2));
    }

    private static void cut() {
        Check.sentence(PART, "cut N: N columns at both ends go; they are TRIMMED.");
        columns("slab 9 5 2;", "cut 1;", of(1, 1, 1, 1, 1, 1, 1), of(0, 1, 1, 1, 1, 1, 0));
        columns("slab 9 5 2;", "cut 4;", of(1), of(1));
        columns("slab 12 3 1;", "fold 2;cut 1;", of(2, 2, 2, 2), of(2, 2, 2, 2));
        columns("slab 12 3 1;", "fold 2;roll 2;cut 1;", of(2, 2, 2, 2, 2, 2, 2, 2, 2, 2), of(0, 2, 2, 2, 2, 2, 2, 2, 2, 2));
        ButterLeaves x = Check.with("slab 9 5 2;weight 4500;", "cut 1;cut 2;cut 1;");
        Check.due("two columns of five cells of 100 grams", x.trimmed(0, 1, 0), 1000);
        Check.due("and four more", x.trimmed(0, 2, 0), 3000);
        Check.due("and two more", x.trimmed(0, 3, 0), 4000);
        Check.due("one column is left", x.behind(0, 3, 0), 1);
    }

    private static void turn() {
        Check.sentence(PART, "turn: X and Y change places (the CELL at x, y to y, x).");
        for (int k = 2; k < 6; k++) {
            ButterLeaves x = Check.with("slab 12 9 1;", "tuck 1;fold 2;turn;fold 3;turn;turn;");
            if (x.step(0, k, 0) == 5) {
                int across = x.behind(0, k, 0);
                int down = x.behind(0, k, 1);
                Check.due("X behind turn " + k, x.behind(0, k + 1, 0), down);
                Check.due("Y behind turn " + k, x.behind(0, k + 1, 1), across);
                for (int i = 0; i < across; i++) {
                    for (int j = 0; j < down; j++) {
                        Check.due("butter", x.leaf(0, k + 1, j, i, 1), x.leaf(0, k, i, j, 1));
                        Check.due("sheets", x.leaf(0, k + 1, j, i, 4), x.leaf(0, k, i, j, 4));
                    }
                }
            }
        }
        ButterLeaves y = Check.with("slab 6 4 1;", "fold 2;turn;");
        Check.due("0 2 2 across, 0 1 1 0 down: at 1, 0", y.leaf(0, 2, 1, 0, 1), 0);
        Check.due("at 1, 2", y.leaf(0, 2, 1, 2, 1), 2);
        Check.due("at 0, 2", y.leaf(0, 2, 0, 2, 1), 0);
    }

    private static void numbers() {
        Check.sentence(PART, "CELLS are numbered from 0 on after each STEP;");
        ButterLeaves x = Check.with("slab 9 3 1;", "cut 1;roll 2;fold 2;turn;");
        int[] across = {9, 7, 14, 7, 3};
        int[] down = {3, 3, 3, 3, 7};
        for (int step = 0; step < across.length; step++) {
            int k = step;
            Check.due("the last cell behind " + k, x.leaf(0, k, across[k] - 1, down[k] - 1, 4), k < 3 ? 1 : 2);
            Check.dueOutside("beyond X behind " + k, () -> x.leaf(0, k, across[k], 0, 4));
            Check.dueOutside("beyond Y behind " + k, () -> x.leaf(0, k, 0, down[k], 4));
        }
        Check.due("what was cell 1 is cell 0", x.leaf(0, 1, 0, 1, 1), 1);
        Check.sentence(PART, "the stacks lie from below upward as told.");
        String[] steps = {"fold 2;", "fold 3;", "fold 4;", "book;", "tuck 2;", "cut 2;", "turn;", "roll 3;"};
        for (String step : steps) {
            ButterLeaves y = Check.with("slab 12 3 1;", step);
            for (int i = 0; i < y.behind(0, 1, 0); i++) {
                for (int j = 0; j < y.behind(0, 1, 1); j++) {
                    Check.due(step + " lowest", y.leaf(0, 1, i, j, 2), 0);
                    Check.due(step + " top", y.leaf(0, 1, i, j, 3), 0);
                }
            }
        }
    }

    // ---- steps that can't be

    /** A kitchen, and the one step behind which there are so many columns; null if there is no such. */
    private static String[] wide(int columns) {
        if (columns == 1) {
            return new String[] {"slab 2 3 0;", "fold 2;"};
        }
        if (columns <= 12) {
            return new String[] {"slab " + columns + " 3 0;", "rest 1;"};
        }
        for (int n = 2; n <= 4; n++) {
            if (columns % n == 0 && columns / n <= 12) {
                return new String[] {"slab " + columns / n + " 3 0;", "roll " + n + ";"};
            }
        }
        return null;
    }

    private static void canBe(int columns, String step, boolean can) {
        String[] made = wide(columns);
        if (made == null) {
            return;
        }
        ButterLeaves x = Check.with(made[0], made[1] + step);
        Check.due("X", x.behind(0, 1, 0), columns);
        Check.due(step + " of " + columns + " columns: done", x.steps(0, 1), can ? 2 : 1);
        Check.due(step + " of " + columns + " columns: stuck", x.wrong(0, 2), can ? -1 : 1);
    }

    private static void rollStuck() {
        Check.sentence(PART, "A STEP can't be: roll, if X would be more than 48;");
        for (int columns = 1; columns <= 48; columns++) {
            for (int n = 2; n <= 4; n++) {
                canBe(columns, "roll " + n + ";", columns * n <= 48);
            }
        }
        ButterLeaves x = Check.with("slab 12 12 0;", "roll 4;turn;roll 4;turn;");
        Check.due("48 both ways", x.behind(0, 4, 0) + x.behind(0, 4, 1), 96);
        Check.due("the cell at the end", x.leaf(0, 4, 47, 47, 1), 1);
    }

    private static void foldStuck() {
        Check.sentence(PART, "fold N, book (4), if X can't be parted so;");
        for (int columns = 1; columns <= 48; columns++) {
            canBe(columns, "fold 2;", columns % 2 == 0);
            canBe(columns, "fold 3;", columns % 3 == 0);
            canBe(columns, "fold 4;", columns % 4 == 0);
            canBe(columns, "book;", columns % 4 == 0);
        }
    }

    private static void tuckStuck() {
        Check.sentence(PART, "tuck N, if X is less than 4 N;");
        for (int columns = 1; columns <= 48; columns++) {
            for (int n = 1; n <= 9; n++) {
                canBe(columns, "tuck " + n + ";", columns >= 4 * n);
            }
        }
    }

    private static void cutStuck() {
        Check.sentence(PART, "cut N, if X is not more than 2 N.");
        for (int columns = 1; columns <= 48; columns++) {
            for (int n = 1; n <= 9; n++) {
                canBe(columns, "cut " + n + ";", columns > 2 * n);
            }
        }
    }

    private static void stuck() {
        Check.sentence(PART, "There the RUN is STUCK: that STEP and all behind it are not done.");
        ButterLeaves x = Check.with("slab 6 4 0;", "turn;roll 3;fold 3;cut 2;turn;fold 3;rest 5;roll 2;", "book;turn;");
        Check.due("4 columns can't be cut by 2", x.wrong(0, 2), 3);
        Check.due("done", x.steps(0, 1), 3);
        Check.due("told", x.steps(0, 0), 8);
        Check.due("behind those done", x.behind(0, 3, 0), 4);
        Check.dueOutside("not behind that step", () -> x.behind(0, 4, 0));
        Check.dueOutside("nor behind the next, which could be", () -> x.thin(0, 5));
        Check.dueOutside("nor behind all", () -> x.leaf(0, 8, 0, 0, 0));
        Check.due("stuck in the first", x.wrong(1, 2), 0);
        Check.due("none done", x.steps(1, 1), 0);
        Check.due("the slab as at first", x.behind(1, 0, 0), 6);
        Check.dueOutside("the turn is not done", () -> x.behind(1, 1, 0));
        ButterLeaves y = Check.with("", "turn;", "stand 3;");
        Check.due("turn alone is never stuck", y.wrong(0, 2), -1);
        Check.due("nor is stand", y.wrong(1, 2), -1);
    }

    // ---- weights

    private static void weights() {
        Check.sentence(PART, "WEIGHT of a CELL: G by the first CELLS, by THIN, times SHEETS;");
        ButterLeaves x = Check.with("slab 5 3 0;weight 100;", "roll 3;fold 3;tuck 1;");
        Check.due("100 by 15 above", x.weight(0, 0, 4, 2, 0), 20);
        Check.due("100 by 15 below", x.weight(0, 0, 4, 2, 1), 3);
        Check.due("100 by 45 above", x.weight(0, 1, 14, 0, 0), 20);
        Check.due("100 by 45 below", x.weight(0, 1, 14, 0, 1), 9);
        Check.due("three of these above", x.weight(0, 2, 0, 0, 0), 20);
        Check.due("three of these below", x.weight(0, 2, 0, 0, 1), 3);
        Check.due("six of these above", x.weight(0, 3, 0, 0, 0), 40);
        Check.due("six of these below", x.weight(0, 3, 0, 0, 1), 3);
        Check.due("the middle is as it was", x.weight(0, 3, 1, 0, 0), 20);
        ButterLeaves y = Check.with("slab 12 12 0;weight 1;", "roll 4;turn;roll 4;fold 4;turn;fold 4;");
        Check.due("1 gram by 144", y.weight(0, 0, 0, 0, 1), 144);
        Check.due("by 16", y.weight(0, 3, 0, 0, 1), 2304);
        Check.due("above", y.weight(0, 3, 0, 0, 0), 1);
        Check.due("16 of these", y.weight(0, 6, 0, 0, 1), 144);
        ButterLeaves z = Check.with("slab 3 3 0;weight 9999;", "turn;");
        Check.due("a whole number", z.weight(0, 0, 2, 2, 0), 1111);
        Check.due("by 1", z.weight(0, 0, 2, 2, 1), 1);
    }

    private static void trimmed() {
        Check.sentence(PART, "TRIMMED likewise, all together.");
        String[] recipes = {"cut 1;", "roll 2;cut 3;fold 2;cut 1;", "fold 2;turn;cut 1;roll 3;cut 2;tuck 1;cut 1;",
            "roll 4;cut 9;book;turn;roll 2;cut 1;turn;cut 1;roll 3;cut 1;"};
        String[] kitchens = {"slab 12 12 1;weight 9999;", "slab 10 8 0;weight 7;", "slab 12 6 2;weight 1000;"};
        for (String kitchen : kitchens) {
            ButterLeaves x = Check.with(kitchen, recipes);
            for (int r = 0; r < recipes.length; r++) {
                for (int k = 0; k <= x.steps(r, 1); k++) {
                    wholeWeight(kitchen, recipes[r], k);
                }
            }
        }
        ButterLeaves y = Check.with("slab 7 2 0;weight 9;", "cut 1;roll 2;cut 1;fold 2;cut 1;");
        // Cells of 9 by 14, then of 9 by 28, then of two such: four of them at each cut.
        trimmedAre(y, of(0, 18, 18, 27, 27, 45), of(1, 7, 7, 7, 7, 7));
        // Cells of 1 by 15, then of 1 by 60: six of them at each cut.
        trimmedAre(Check.with("slab 5 3 0;weight 1;", "cut 1;roll 4;cut 1;"), of(0, 2, 2, 1), of(1, 5, 5, 2));
    }

    private static void trimmedAre(ButterLeaves x, long[] above, long[] below) {
        for (int k = 0; k < above.length; k++) {
            Check.due("above behind " + k, x.trimmed(0, k, 0), above[k]);
            Check.due("below behind " + k, x.trimmed(0, k, 1), below[k]);
        }
    }

    /** What is trimmed and what is left is the whole slab, as fractions; and each is in least terms. */
    private static void wholeWeight(String kitchen, String recipe, int k) {
        String told = kitchen + recipe + " behind " + k;
        ButterLeaves x = Check.with(kitchen, recipe);
        BigInteger above = BigInteger.valueOf(x.trimmed(0, k, 0));
        BigInteger below = BigInteger.valueOf(x.trimmed(0, k, 1));
        Check.due(told + " trimmed in least terms", above.gcd(below).intValue(), 1);
        for (int i = 0; i < x.behind(0, k, 0); i++) {
            x = Check.with(kitchen, recipe);
            for (int j = 0; j < x.behind(0, k, 1); j++) {
                BigInteger a = BigInteger.valueOf(x.weight(0, k, i, j, 0));
                BigInteger b = BigInteger.valueOf(x.weight(0, k, i, j, 1));
                Check.due(told + " weight in least terms", a.gcd(b).intValue(), 1);
                above = above.multiply(b).add(a.multiply(below));
                below = below.multiply(b);
                BigInteger common = above.gcd(below);
                above = above.divide(common);
                below = below.divide(common);
            }
        }
        Check.due(told + " all together", above.longValueExact(), x.told(3));
        Check.due(told + " whole grams", below.longValueExact(), 1);
    }

    /** Each step behind columns that are unlike at both ends, held against real stacks of leaves. */
    private static void againstStacks() {
        Check.sentence(PART, "the stacks lie from below upward as told.");
        String[] steps = {"fold 2;", "fold 3;", "fold 4;", "book;", "tuck 1;", "tuck 2;", "tuck 3;", "cut 1;", "cut 3;", "turn;",
            "roll 2;", "turn;tuck 1;turn;book;", "turn;cut 1;fold 3;turn;fold 4;", "book;turn;tuck 1;"};
        for (String kitchen : new String[] {"slab 12 5 1;", "slab 12 8 2;weight 77;"}) {
            for (String ahead : UNLIKE) {
                for (String step : steps) {
                    againstStacks(kitchen, ahead + step);
                }
            }
        }
    }

    private static void againstStacks(String kitchen, String recipe) {
        Model model = new Model();
        model.tell(kitchen, recipe);
        String told = kitchen + recipe;
        int done = (int) model.call("steps", 0, 1);
        Check.due(told + " done", Check.with(kitchen, recipe).steps(0, 1), done);
        for (int k = Math.max(0, done - 3); k <= done; k++) {
            for (int i = 0; i < model.call("behind", 0, k, 0); i++) {
                ButterLeaves x = Check.with(kitchen, recipe);
                for (int j = 0; j < model.call("behind", 0, k, 1); j++) {
                    for (int what = 0; what <= 4; what++) {
                        Check.due(told + " leaf", x.leaf(0, k, i, j, what), model.call("leaf", 0, k, i, j, what));
                    }
                }
            }
            againstStacks(Check.with(kitchen, recipe), model, k, told + " behind " + k);
        }
    }

    private static void againstStacks(ButterLeaves x, Model model, int k, String told) {
        for (int what = 0; what <= 2; what++) {
            Check.due(told + " most", x.most(0, k, what), model.call("most", 0, k, what));
            Check.due(told + " least", x.least(0, k, what), model.call("least", 0, k, what));
        }
        for (int what = 0; what <= 1; what++) {
            Check.due(told + " joins", x.joins(0, k, what), model.call("joins", 0, k, what));
            Check.due(told + " trimmed", x.trimmed(0, k, what), model.call("trimmed", 0, k, what));
        }
        Check.due(told + " kinds", x.kinds(0, k), model.call("kinds", 0, k));
        Check.due(told + " block", x.block(0, k), model.call("block", 0, k));
    }
}
