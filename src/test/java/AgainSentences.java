/** Objects that have been told and asked much before answer as new ones do: what went leaves nothing behind. */
final class AgainSentences {
    private static final String[] KITCHENS = {"slab 12 12 1;weight 77;", "slab 4 3 1;box 7;low 6;high 12;", "",
        "slab 8 12 2;room 0 4;room 7 30;start 6;", "slab 2 2 0;low 40;", "slab 12 2 0;box 30;high 5;room 23 0;room 1 9;",
        "box 9;low 4;high 13;rub 41;room 0 6;", "slab 9 10 3;low 3;high 9;rub 5;", "slab 6 6 1;low 0;high 40;rub 0;start 23;"};
    private static final String[][] RECIPES = {{"roll 4;fold 4;turn;cut 1;tuck 1;", "rest 3;stand 2;rest 4;cut 1;"},
        {"book;", "tuck 2;turn;tuck 1;roll 2;book;cut 1;", "rest 5;", "stand 3;rest 2;stand 2;rest 2;stand 1;rest 9;"},
        {"stand 1;"}, {}, {"rest 2;cut 1;", "cut 2;cut 2;fold 2;", "roll 3;fold 3;turn;rest 6;", "turn;"},
        {"stand 36;".repeat(20), "fold 2;", "cut 1;rest 1;".repeat(9), "turn;stand 12;"},
        {"fold 3;roll 2;fold 4;tuck 1;", "tuck 1;"}, {"cut 1;rest 1;".repeat(10), "cut 1;rest 1;".repeat(3)}};
    private static final int[] LEAVES = {1, 2, 5, 9, 27, 48, 243, 729};

    private AgainSentences() {
    }

    static void all() {
        recipesAgain();
        kitchensAgain();
        beginAgain();
    }

    private static void recipesAgain() {
        Check.sentence("Promise 30", "All is as in the latest IMAGE (later RECIPES go), which is gone: how many are left;");
        for (String kitchen : KITCHENS) {
            for (String[] former : RECIPES) {
                for (String[] recipes : RECIPES) {
                    ButterLeaves x = Check.with(kitchen);
                    x.image();
                    tell(x, former);
                    askOnce(x);
                    x.restore();
                    tell(x, recipes);
                    alike(x, Check.with(kitchen, recipes), kitchen + ", " + joined(recipes) + " behind " + joined(former));
                }
            }
        }
    }

    private static void kitchensAgain() {
        Check.sentence("Promise 3", "(RECIPES stay; what begin() told goes, IMAGES too):");
        for (String[] recipes : RECIPES) {
            for (String former : KITCHENS) {
                for (String kitchen : KITCHENS) {
                    ButterLeaves x = Check.with(former, recipes);
                    x.begin(100);
                    askOnce(x);
                    Check.kitchen(x, kitchen);
                    alike(x, Check.with(kitchen, recipes), joined(recipes) + ", " + kitchen + " behind " + former);
                }
            }
        }
    }

    private static void beginAgain() {
        Check.sentence("Promise 22", "All begins with another UNIT of the day (0 to 287): what it was.");
        int[] units = {0, 71, 80, 143, 275, 287};
        for (String kitchen : KITCHENS) {
            for (int former : units) {
                for (int unit : units) {
                    ButterLeaves x = Check.with(kitchen, RECIPES[1]);
                    x.begin(former);
                    askOnce(x);
                    x.begin(unit);
                    ButterLeaves y = Check.with(kitchen, RECIPES[1]);
                    y.begin(unit);
                    alike(x, y, kitchen + " from " + unit + " behind " + former);
                }
            }
        }
    }

    private static String joined(String[] recipes) {
        return String.join("|", recipes);
    }

    /** Asks for what an object may keep from one call to the next. */
    private static void askOnce(ButterLeaves x) {
        for (int r = 0; r < x.told(9); r++) {
            x.wrong(r, 1);
            x.latest(r);
            x.kinds(r, x.steps(r, 1));
        }
        x.soonest(729, 0);
        x.soonest(2, 0);
        x.bench(0);
    }

    private static void tell(ButterLeaves x, String[] recipes) {
        for (String text : recipes) {
            Check.recipe(x, text);
        }
    }

    // ---- answers of two objects: with all that goes ahead less than 512 calls, for later ones are free

    private static void alike(ButterLeaves x, ButterLeaves y, String told) {
        for (int what = 0; what <= 9; what++) {
            Check.due(told + ": told " + what, x.told(what), y.told(what));
        }
        for (int r = 0; r < y.told(9); r++) {
            alikeRecipe(x, y, r, told + ": recipe " + r);
        }
        for (int n : LEAVES) {
            Check.due(told + ": units to " + n, x.soonest(n, 0), y.soonest(n, 0));
            for (int i = 0; i <= 6; i++) {
                Check.due(told + ": pass " + i + " to " + n, x.pass(n, i), y.pass(n, i));
            }
        }
        for (int what = 0; what <= 2; what++) {
            Check.due(told + ": bench " + what, x.bench(what), y.bench(what));
        }
        for (int i = 0; i <= 12; i++) {
            Check.due(told + ": turn " + i, x.turnOf(i), y.turnOf(i));
        }
    }

    private static void alikeRecipe(ButterLeaves x, ButterLeaves y, int r, String told) {
        Check.due(told + ": steps", x.steps(r, 0), y.steps(r, 0));
        Check.due(told + ": done", x.steps(r, 1), y.steps(r, 1));
        Check.due(told + ": latest", x.latest(r), y.latest(r));
        for (int what = 0; what <= 2; what++) {
            Check.due(told + ": wrong " + what, x.wrong(r, what), y.wrong(r, what));
        }
        alikeSlab(x, y, r, y.steps(r, 1), told);
    }

    private static void alikeSlab(ButterLeaves x, ButterLeaves y, int r, int k, String told) {
        for (int what = 0; what <= 3; what++) {
            Check.due(told + ": behind " + what, x.behind(r, k, what), y.behind(r, k, what));
        }
        for (int what = 0; what <= 2; what++) {
            Check.due(told + ": most " + what, x.most(r, k, what), y.most(r, k, what));
            Check.due(told + ": least " + what, x.least(r, k, what), y.least(r, k, what));
        }
        for (int what = 0; what <= 1; what++) {
            Check.due(told + ": joins " + what, x.joins(r, k, what), y.joins(r, k, what));
            Check.due(told + ": trimmed " + what, x.trimmed(r, k, what), y.trimmed(r, k, what));
        }
        Check.due(told + ": thin", x.thin(r, k), y.thin(r, k));
        Check.due(told + ": kinds", x.kinds(r, k), y.kinds(r, k));
        Check.due(told + ": block", x.block(r, k), y.block(r, k));
        for (int n = 0; n <= 4; n++) {
            Check.due(told + ": having " + n, x.having(r, k, n), y.having(r, k, n));
        }
        int row = y.behind(r, k, 1) / 2;
        for (int i = 0; i < y.behind(r, k, 0) && i < 12; i++) {
            Check.due(told + ": butter of column " + i, x.leaf(r, k, i, row, 1), y.leaf(r, k, i, row, 1));
            Check.due(told + ": sheets of column " + i, x.leaf(r, k, i, row, 4), y.leaf(r, k, i, row, 4));
        }
    }
}
