/** Promises 27 and 28: several recipes by one bench, and their turns. */
public final class BenchTest {
    public static void main(String[] args) {
        none();
        oneRecipe();
        order();
        tooMany();
        longest();
        hard();
        wrongInputs();
        Check.end();
    }

    private static void bench(ButterLeaves x, int done, int idle, int... turns) {
        Check.due("bench(0)", x.bench(0), done);
        Check.due("bench(1)", x.bench(1), turns.length);
        Check.due("bench(2)", x.bench(2), idle);
        for (int i = 0; i < turns.length; i++) {
            Check.due("turnOf(" + i + ")", x.turnOf(i), turns[i]);
        }
        Check.due("no turn more", x.turnOf(turns.length), -1);
        Check.due("no turn ahead", x.turnOf(-1), -1);
    }

    private static void none() {
        bench(new ButterLeaves(), 0, 0);
        bench(Check.with("", "rest 5;"), 5, 0);
        bench(Check.with("", "turn;turn;"), 0, 0);
        bench(Check.with("", "turn;rest 2;turn;rest 3;", "rest 4;"), 5, 0);
    }

    private static void oneRecipe() {
        bench(Check.with("", "roll 2;fold 2;turn;stand 5;"), 8, 0, 0);
        bench(Check.with("", "rest 2;turn;rest 3;roll 2;rest 4;"), 11, 5, 5);
        bench(Check.with("", "roll 2;rest 2;turn;rest 2;roll 2;"), 8, 4, 0, 6);
        bench(Check.with("", "roll 2;rest 2;cut 1;rest 2;roll 2;turn;"), 9, 4, 0, 4, 7);
        // What is stuck is still told: both steps are on the bench.
        bench(Check.with("", "book;fold 2;rest 1;"), 3, 0, 0);
    }

    private static void order() {
        bench(Check.with("", "stand 4;rest 10;", "stand 3;rest 1;"), 14, 0, 0, 1004);
        bench(Check.with("", "stand 3;rest 1;", "stand 4;rest 10;"), 14, 0, 1000, 4);
        bench(Check.with("", "stand 2;", "stand 2;"), 4, 0, 0, 1002);
        bench(Check.with("", "roll 2;rest 1;roll 2;", "roll 2;"), 6, 0, 0, 1002, 4);
        bench(Check.with("", "roll 2;rest 3;fold 2;", "roll 3;rest 1;cut 1;"), 7, 1, 0, 1002, 5, 1006);
        // The bench waits for the second one, though the first could begin at once.
        bench(Check.with("", "stand 36;", "rest 1;stand 1;rest 36;"), 38, 1, 1001, 2);
        // A recipe of rests alone may be done last.
        bench(Check.with("", "stand 3;", "rest 36;"), 36, 0, 0);
        ButterLeaves x = Check.with("", "stand 3;");
        bench(x, 3, 0, 0);
        x.image();
        Check.recipe(x, "stand 4;rest 4;");
        bench(x, 8, 0, 1000, 4);
        x.restore();
        bench(x, 3, 0, 0);
        Check.recipe(x, "stand 5;rest 1;");
        bench(x, 8, 0, 1000, 5);
    }

    private static void tooMany() {
        ButterLeaves x = Check.with("", "stand 1;rest 1;".repeat(10), "stand 1;rest 1;stand 1;");
        Check.due("12 blocks", x.bench(1), 12);
        Check.due("in their order", x.turnOf(0), 0);
        x.image();
        Check.recipe(x, "turn;rest 4;");
        Check.due("still 12", x.bench(1), 12);
        Check.recipe(x, "cut 1;");
        for (int what = 0; what < 3; what++) {
            Check.due("13 blocks: bench(" + what + ")", x.bench(what), -1);
        }
        Check.due("13 blocks: turnOf", x.turnOf(0), -1);
        x.restore();
        Check.due("12 again", x.bench(1), 12);
        ButterLeaves y = Check.with("", "stand 1;rest 1;".repeat(10), "stand 1;rest 1;".repeat(10),
                "stand 1;rest 1;".repeat(10), "stand 1;rest 1;".repeat(10));
        Check.due("40 blocks", y.bench(1), -1);
    }

    private static void longest() {
        String all = "stand 36;".repeat(20);
        bench(Check.with("", all, all, all, all), 2880, 0, 0, 1720, 3440, 5160);
    }

    /** Orders of 12 blocks that are hard to tell apart, held against all orders. */
    private static void hard() {
        hardest("stand 1;rest 1;stand 2;rest 7;stand 8;rest 5;", "stand 1;rest 1;stand 2;rest 7;stand 8;rest 5;",
                "stand 1;rest 1;stand 2;rest 7;stand 8;rest 5;", "stand 4;rest 2;stand 2;rest 9;stand 1;");
        hardest("rest 29;stand 1;rest 9;stand 29;rest 25;stand 1;rest 2;",
                "rest 26;stand 4;rest 5;stand 1;rest 1;stand 35;rest 28;",
                "stand 22;rest 1;stand 2;rest 1;stand 36;rest 28;",
                "stand 27;rest 6;stand 35;rest 6;stand 32;rest 35;");
        hardest("rest 10;stand 30;rest 5;stand 10;rest 10;stand 32;rest 24;",
                "rest 10;stand 24;rest 11;stand 2;rest 4;stand 18;rest 28;",
                "stand 25;rest 1;stand 29;rest 1;stand 10;rest 8;stand 3;rest 14;", "stand 14;rest 7;stand 36;rest 29;");
        hardest("stand 4;rest 2;stand 5;rest 10;stand 5;rest 1;", "rest 12;stand 7;rest 9;stand 6;rest 3;",
                "stand 9;rest 4;stand 11;rest 7;", "stand 6;rest 8;stand 9;rest 4;stand 1;rest 12;stand 7;");
        hardest("stand 7;rest 9;stand 4;rest 11;stand 9;rest 8;stand 6;", "stand 5;", "stand 5;",
                "rest 5;stand 6;rest 7;stand 4;rest 2;stand 6;rest 2;stand 6;");
        hardest("roll 2;rest 4;roll 2;rest 4;roll 2;rest 4;roll 2;rest 4;",
                "roll 2;rest 4;roll 2;rest 4;roll 2;rest 4;roll 2;rest 4;",
                "roll 2;rest 4;roll 2;rest 4;roll 2;rest 4;roll 2;rest 4;", "rest 30;");
    }

    private static void hardest(String... recipes) {
        ButterLeaves x = Check.with("", recipes);
        Model model = new Model();
        model.mostBlocks = 12;
        model.tell("", recipes);
        int[] best = model.bestBench();
        bench(x, best[0], best[2], java.util.Arrays.copyOfRange(best, 3, best.length));
    }

    private static void wrongInputs() {
        ButterLeaves x = Check.with("", "stand 1;");
        int[] none = {-1, 3, Integer.MIN_VALUE, Integer.MAX_VALUE};
        for (int what : none) {
            Check.dueIllegal("bench", () -> x.bench(what));
            Check.due("turnOf", x.turnOf(what), -1);
        }
    }
}
