import java.util.ArrayList;
import java.util.Arrays;
import java.util.List;
import java.util.Random;

/** Part 4 of 'Terms', its second half, sentence by sentence: several recipes by one bench. */
final class BenchSentences {
    private static final String PART = "Terms 4";

    private BenchSentences() {
    }

    static void all() {
        recipes();
        blocks();
        rests();
        oneAtATime();
        best();
        theFirst();
        asSoonAsItCan();
        atMostTwelve();
    }

    private static void bench(String[] recipes, int done, int idle, int... turns) {
        bench(Check.with("", recipes), Arrays.toString(recipes), done, idle, turns);
    }

    private static void bench(ButterLeaves x, String told, int done, int idle, int... turns) {
        Check.due(told + " done", x.bench(0), done);
        Check.due(told + " blocks", x.bench(1), turns.length);
        Check.due(told + " idle", x.bench(2), idle);
        for (int i = 0; i < turns.length; i++) {
            Check.due(told + " turn " + i, x.turnOf(i), turns[i]);
        }
        Check.due(told + " no turn more", x.turnOf(turns.length), -1);
    }

    private static String[] of(String... recipes) {
        return recipes;
    }

    private static void recipes() {
        Check.sentence(PART, "BENCH: all RECIPES told, each once:");
        bench(of(), 0, 0);
        bench(of("stand 3;"), 3, 0, 0);
        bench(of("stand 3;", "stand 3;"), 6, 0, 0, 1003);
        bench(of("stand 3;", "stand 3;", "stand 3;"), 9, 0, 0, 1003, 2006);
        bench(of("stand 3;", "stand 3;", "stand 3;", "stand 3;"), 12, 0, 0, 1003, 2006, 3009);
        // Told is told, whether it would be stuck, break or run.
        bench(of("book;stand 2;", "roll 2;"), 5, 0, 0, 1003);
        ButterLeaves x = Check.with("", "stand 3;");
        Check.recipe(x, "stand 3;x");
        bench(x, "a recipe refused", 3, 0, 0);
    }

    private static void blocks() {
        Check.sentence(PART, "rows of BLOCKS: STEPS between rests together (0 UNITS: no BLOCK), in their order;");
        bench(of("roll 2;fold 2;turn;stand 5;cut 1;tuck 1;book;"), 11, 0, 0);
        bench(of("turn;"), 0, 0);
        bench(of("turn;turn;turn;"), 0, 0);
        bench(of("turn;rest 4;turn;"), 4, 0);
        bench(of("fold 2;turn;rest 4;turn;fold 2;"), 6, 4, 0, 5);
        bench(of("fold 2;rest 4;turn;rest 5;fold 2;"), 11, 9, 0, 10);
        bench(of("turn;rest 2;fold 2;"), 3, 2, 2);
        bench(of("fold 2;rest 2;turn;"), 3, 0, 0);
        bench(of("stand 1;rest 1;stand 2;rest 1;stand 3;"), 8, 2, 0, 2, 5);
    }

    private static void rests() {
        Check.sentence(PART, "between two BLOCKS at least the rests told between (all together),");
        bench(of("stand 1;rest 3;rest 4;stand 1;"), 9, 7, 0, 8);
        bench(of("stand 1;rest 36;rest 36;stand 1;"), 74, 72, 0, 73);
        bench(of("stand 2;rest 1;stand 2;", "stand 9;"), 13, 0, 0, 1002, 11);
        Check.sentence(PART, "ahead of the first one at least those ahead of it;");
        bench(of("rest 3;stand 1;"), 4, 3, 3);
        bench(of("rest 3;rest 4;turn;rest 1;stand 1;"), 9, 8, 8);
        bench(of("rest 3;stand 1;", "stand 5;"), 6, 0, 1000, 5);
        Check.sentence(PART, "it is done with its last rests.");
        bench(of("stand 1;rest 3;"), 4, 0, 0);
        bench(of("stand 1;rest 3;rest 4;turn;rest 5;"), 13, 0, 0);
        bench(of("rest 7;"), 7, 0);
        bench(of("rest 7;turn;rest 7;", "rest 9;"), 14, 0);
        bench(of("stand 3;", "rest 36;"), 36, 0, 0);
        bench(of("stand 3;", "rest 2;"), 3, 0, 0);
    }

    private static void oneAtATime() {
        Check.sentence(PART, "One BLOCK at a time.");
        bench(of("stand 5;", "stand 4;", "stand 3;"), 12, 0, 0, 1005, 2009);
        bench(of("stand 1;rest 1;stand 1;", "stand 1;rest 1;stand 1;"), 4, 0, 0, 1001, 2, 1003);
        // Both could go on at 3: one waits.
        bench(of("stand 1;rest 2;stand 2;", "rest 3;stand 2;"), 7, 2, 0, 3, 1005);
    }

    private static void best() {
        Check.sentence(PART, "Best is the order by which the last is done first;");
        bench(of("stand 3;rest 1;", "stand 4;rest 10;"), 14, 0, 1000, 4);
        bench(of("stand 4;rest 10;", "stand 3;rest 1;"), 14, 0, 0, 1004);
        bench(of("stand 1;", "stand 1;rest 1;", "stand 1;rest 2;", "stand 1;rest 3;"), 4, 0, 3000, 2001, 1002, 3);
        // It is better to wait for the second one than to begin at once.
        bench(of("stand 36;", "rest 1;stand 1;rest 36;"), 38, 1, 1001, 2);
        bench(of("stand 36;", "rest 35;stand 1;rest 36;"), 72, 35, 1035, 36);
        bench(of("stand 36;", "rest 36;stand 1;rest 36;"), 73, 0, 0, 1036);
        smallBenches();
        for (int seed = 1; seed <= 40; seed++) {
            largeBench(seed, 3, 4);
        }
        for (int seed = 1; seed <= 10; seed++) {
            largeBench(seed, 2, 6);
            largeBench(seed, 4, 2);
        }
        largeBench(1, 4, 3);
        largeBench(2, 4, 3);
    }

    /** Up to 12 blocks with units and rests drawn from a fixed seed, held against all orders. */
    private static void largeBench(int seed, int count, int blocks) {
        Random random = new Random(seed);
        int longest = 1 + random.nextInt(36);
        int longestRest = 1 + random.nextInt(36);
        String[] recipes = new String[count];
        for (int r = 0; r < count; r++) {
            StringBuilder text = new StringBuilder(random.nextInt(3) == 0 ? rest(1 + random.nextInt(longestRest)) : "");
            for (int i = 0; i < blocks; i++) {
                text.append("stand ").append(1 + random.nextInt(longest)).append(";");
                text.append(rest(1 + random.nextInt(longestRest)));
            }
            recipes[r] = text.toString();
        }
        againstAll(recipes);
    }

    /** All pairs of small recipes, held against all orders. */
    private static void smallBenches() {
        List<String> small = new ArrayList<>();
        for (int ahead : new int[] {0, 2}) {
            for (int first : new int[] {1, 3}) {
                for (int between : new int[] {0, 1, 4}) {
                    for (int last : new int[] {0, 3}) {
                        small.add(rest(ahead) + "stand " + first + ";" + (between > 0 ? rest(between) + "stand 2;" : "")
                                + rest(last));
                    }
                }
            }
        }
        for (String one : small) {
            for (String other : small) {
                againstAll(of(one, other));
                againstAll(of(one, "stand 2;rest 3;", other));
            }
        }
    }

    private static String rest(int units) {
        return units == 0 ? "" : "rest " + units + ";";
    }

    private static void againstAll(String[] recipes) {
        Model model = new Model();
        model.mostBlocks = 12;
        model.tell("", recipes);
        int[] best = model.bestBench();
        bench(recipes, best[0], best[2], Arrays.copyOfRange(best, 3, best.length));
    }

    private static void theFirst() {
        Check.sentence(PART, "of these the first (RECIPE by RECIPE number, BLOCK by BLOCK;");
        bench(of("stand 2;", "stand 2;"), 4, 0, 0, 1002);
        bench(of("stand 2;", "stand 1;"), 3, 0, 0, 1002);
        bench(of("stand 1;", "stand 2;", "stand 3;"), 6, 0, 0, 1001, 2003);
        bench(of("stand 2;rest 1;stand 1;", "stand 1;rest 9;"), 10, 1, 1000, 1, 4);
        bench(of("stand 1;rest 1;stand 1;", "stand 1;", "stand 1;"), 4, 0, 0, 1001, 2, 2003);
        // All is done with the long rest of recipe 2: the other two may lie in any order, idle units or not.
        bench(of("stand 1;rest 1;stand 1;", "stand 1;", "rest 36;"), 36, 1, 0, 2, 1003);
        bench(of("rest 5;stand 1;", "stand 1;", "rest 36;"), 36, 5, 5, 1006);
    }

    private static void asSoonAsItCan() {
        Check.sentence(PART, "each BLOCK begins as soon as it can behind the one ahead).");
        bench(of("rest 5;stand 1;", "stand 1;", "rest 36;"), 36, 5, 5, 1006);
        bench(of("stand 1;rest 5;stand 1;", "stand 2;rest 1;stand 2;", "rest 36;"), 36, 6, 0, 6, 1007, 1010);
    }

    private static void atMostTwelve() {
        Check.sentence(PART, "At most 12 BLOCKS in all: else NONE.");
        ButterLeaves x = Check.with("", "stand 1;rest 1;".repeat(10), "stand 1;rest 1;stand 1;");
        Check.due("12 blocks", x.bench(1), 12);
        // The second recipe's blocks lie in the rests of the first, or one of them behind.
        Check.due("12 blocks: done", x.bench(0), 20);
        Check.due("12 blocks: the last turn", x.turnOf(11) > 0 ? 1 : 0, 1);
        Check.due("12 blocks: no turn more", x.turnOf(12), -1);
        Check.recipe(x, "turn;rest 9;turn;");
        Check.due("no block more", x.bench(1), 12);
        Check.recipe(x, "stand 1;");
        for (int what = 0; what <= 2; what++) {
            Check.due("13 blocks: bench(" + what + ")", x.bench(what), -1);
        }
        for (int i = -1; i <= 13; i++) {
            Check.due("13 blocks: turnOf(" + i + ")", x.turnOf(i), -1);
        }
        String[] ten = new String[4];
        Arrays.fill(ten, "stand 1;rest 1;".repeat(10));
        Check.due("40 blocks", Check.with("", ten).bench(0), -1);
        String[] three = new String[4];
        Arrays.fill(three, "stand 1;rest 1;stand 1;rest 1;stand 1;");
        ButterLeaves y = Check.with("", three);
        Check.due("four of three: done", y.bench(0), 12);
        Check.due("four of three: blocks", y.bench(1), 12);
        Check.due("four of three: idle", y.bench(2), 0);
        for (int i = 0; i < 12; i++) {
            Check.due("four of three: turn " + i, y.turnOf(i) % 1000, i);
        }
    }
}
