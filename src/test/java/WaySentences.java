import java.util.Arrays;

/** Part 4 of 'Terms', its first half, sentence by sentence: passes, the soonest way, the fewest passes, the latest begin. */
final class WaySentences {
    private static final String PART = "Terms 4";

    private WaySentences() {
    }

    static void all() {
        waits();
        longestWaits();
        passes();
        leaves();
        neitherBreaksNorRuns();
        fewestUnits();
        fewestPasses();
        theFirst();
        fewest();
        none();
        latest();
        latestOfAll();
    }

    /** A way is as told, and told as a recipe it neither breaks nor runs, takes as long and has so many leaves. */
    private static void way(String kitchen, int n, int units, int... passes) {
        way(Check.with(kitchen), kitchen + " to " + n, n, units, passes);
    }

    private static void wayFrom(int first, String kitchen, int n, int units, int... passes) {
        ButterLeaves x = Check.with(kitchen);
        x.begin(first);
        way(x, kitchen + " from " + first + " to " + n, n, units, passes);
    }

    private static void way(ButterLeaves x, String told, int n, int units, int... passes) {
        Check.due(told + ": units", x.soonest(n, 0), units);
        Check.due(told + ": passes", x.soonest(n, 1), passes.length);
        StringBuilder recipe = new StringBuilder();
        for (int i = 0; i < passes.length; i++) {
            Check.due(told + ": pass " + i, x.pass(n, i), passes[i]);
            int wait = passes[i] / 10;
            int f = passes[i] % 10;
            recipe.append(wait == 0 ? "" : wait > 12 ? "stand " + (wait - 12) + ";" : "rest " + wait + ";");
            recipe.append("roll ").append(f).append(";fold ").append(f).append(";");
            // Six passes would have too many steps.
            recipe.append(passes.length < 6 ? "turn;" : "");
        }
        Check.due(told + ": no pass more", x.pass(n, passes.length), -1);
        if (passes.length > 0) {
            Check.recipe(x, recipe.toString());
            int steps = x.steps(0, 0);
            Check.due(told + ": all can be done", x.steps(0, 1), steps);
            Check.due(told + ": breaks", x.wrong(0, 0), -1);
            Check.due(told + ": runs", x.wrong(0, 1), -1);
            Check.due(told + ": takes", x.behind(0, steps, 2), units);
            Check.due(told + ": leaves", x.most(0, steps, 1), n);
        }
    }

    private static void noWay(String kitchen, int n) {
        noWayFrom(72, kitchen, n);
    }

    private static void noWayFrom(int first, String kitchen, int n) {
        ButterLeaves x = Check.with(kitchen);
        x.begin(first);
        String told = kitchen + " from " + first + " to " + n;
        Check.due(told + ": units", x.soonest(n, 0), -1);
        Check.due(told + ": passes", x.soonest(n, 1), -1);
        Check.due(told + ": fewest, units", x.fewest(n, 0), -1);
        Check.due(told + ": fewest, passes", x.fewest(n, 1), -1);
        Check.due(told + ": a pass", x.pass(n, 0), -1);
    }

    private static void waits() {
        Check.sentence(PART, "A PASS: a wait (0: none;");
        way("box 8;", 2, 3, 2);
        way("box 8;room 0 0;rub 0;", 3, 3, 3);
        Check.sentence(PART, "1 to 12: a rest of so many UNITS;");
        // Two passes can be without a wait; ahead of the third one unit in the box is needed.
        way("box 10;low 8;high 16;rub 36;room 0 6;", 27, 10, 3, 3, 13);
        way("box 3;low 3;high 9;rub 5;", 27, 22, 3, 63, 73);
        Check.sentence(PART, "13 to 24: a stand of so many less 12),");
        // 40 56 70 83: three units.
        way("", 2, 6, 152);
        way("box 7;", 2, 4, 132);
        way("box 11;low 6;high 12;rub 37;room 0 4;", 9, 13, 153, 163);
    }

    private static void longestWaits() {
        Check.sentence(PART, "1 to 12: a rest of so many UNITS;");
        way("box 2;low 2;high 10;rub 6;room 0 28;", 27, 32, 3, 113, 123);
        way("box 5;low 4;high 9;rub 36;room 0 5;", 27, 32, 3, 113, 123);
        // Where a rest of 13 is needed between two passes there is no way.
        way("box 0;low 0;high 13;rub 56;room 0 27;", 9, 18, 3, 123);
        noWay("box 0;low 0;high 13;rub 57;room 0 27;", 9);
        ButterLeaves y = Check.with("box 0;low 0;high 13;rub 57;room 0 27;", "roll 3;fold 3;turn;rest 13;roll 3;fold 3;");
        Check.due("a rest of 13 would do", y.wrong(0, 0) + y.wrong(0, 1), -2);
        Check.sentence(PART, "13 to 24: a stand of so many less 12),");
        // 12 units on the bench bring 40 to 80 and more; from 39 on it is one unit more.
        way("box 4;low 8;high 12;rub 5;room 0 10;", 2, 15, 242);
        noWay("box 4;low 8;high 12;rub 5;room 0 9;", 2);
        noWay("low 10;high 40;room 0 0;room 7 40;", 2);
        ButterLeaves x = Check.with("low 10;high 40;room 0 0;room 7 40;");
        // Nine units of 0 and three of 40: 18 behind the ninth, then 56, 90 and 121.
        x.begin(76);
        Check.due("a stand of 11", x.pass(2, 0), 232);
        x.begin(75);
        Check.due("a stand of 12", x.pass(2, 0), 242);
        x.begin(74);
        Check.due("a stand of 13 there is not", x.pass(2, 0), -1);
    }

    private static void passes() {
        Check.sentence(PART, "roll f, fold f, turn (f 2, 3 or 4).");
        String easy = "low 0;high 40;rub 0;";
        way(easy, 2, 3, 2);
        way(easy, 3, 3, 3);
        way(easy, 4, 3, 4);
        for (int n : new int[] {5, 7, 10, 11, 13, 14, 15, 20, 25, 35, 49, 1000, 1015, 1023}) {
            noWay(easy, n);
        }
        // The fold is on the bench too: 139 behind the roll, 145 behind the fold.
        way("box 8;high 15;", 2, 3, 2);
        noWay("box 8;low 8;high 11;rub 0;room 0 22;", 2);
        way("box 8;low 8;high 12;rub 0;room 0 22;", 2, 3, 2);
        // The rub at the end of the roll is too much, though the fold would cool it.
        noWay("box 8;low 8;high 15;rub 99;room 0 0;", 2);
        way("box 8;low 8;high 17;rub 99;room 0 0;", 2, 3, 2);
    }

    private static void leaves() {
        Check.sentence(PART, "SOONEST way to n LEAVES of BUTTER (n 1 to 1,024):");
        String easy = "low 0;high 40;rub 0;";
        way(easy, 1, 0);
        way(easy, 1024, 15, 4, 4, 4, 4, 4);
        ButterLeaves x = Check.with(easy);
        Check.dueIllegal("n 0", () -> x.soonest(0, 0));
        Check.dueIllegal("n 1025", () -> x.soonest(1025, 0));
        Check.sentence(PART, "PASSES by which a CELL with one of them has n,");
        int[] counts = new int[1025];
        Arrays.fill(counts, -1);
        counts[1] = 0;
        // The fewest of 2, 3 and 4 that n is the product of; n less than 1,025 has six at most.
        for (int n = 2; n <= 1024; n++) {
            for (int f = 2; f <= 4; f++) {
                if (n % f == 0 && counts[n / f] >= 0 && (counts[n] < 0 || counts[n / f] + 1 < counts[n])) {
                    counts[n] = counts[n / f] + 1;
                }
            }
        }
        for (int n = 1; n <= 1024; n++) {
            product(Check.with(easy), n, counts[n]);
        }
        // A CELL with one of them lies in no rim, so a rim beside it shuts no way out.
        for (int n = 1; n <= 1024; n += n < 100 ? 1 : 25) {
            product(Check.with(easy + "slab 7 9 3;"), n, counts[n]);
        }
    }

    private static void product(ButterLeaves x, int n, int passes) {
        Check.due("passes to " + n, x.soonest(n, 1), passes);
        Check.due("units to " + n, x.soonest(n, 0), passes < 0 ? -1 : 3 * passes);
        int product = 1;
        int former = 2;
        for (int i = 0; i < passes; i++) {
            int f = x.pass(n, i);
            Check.due("the least f first, to " + n, f >= former && f <= 4 ? 1 : 0, 1);
            product *= f;
            former = f;
        }
        Check.due("product of the passes to " + n, passes < 0 ? n : product, n);
    }

    private static void neitherBreaksNorRuns() {
        Check.sentence(PART, "none BREAKS, none RUNS,");
        // As warm as low at the roll, and as warm as high at its end.
        way("box 8;low 8;high 10;rub 20;room 0 8;", 2, 3, 2);
        noWay("box 8;low 8;high 10;rub 21;room 0 8;", 2);
        // 80 83 85 87 89 91: five units.
        way("box 8;low 9;high 20;rub 20;room 0 11;", 2, 8, 172);
        noWay("low 40;", 2);
        noWay("high 4;low 0;", 2);
        // The butter itself is too warm in the box, but neither a rest nor a stand is needed.
        way("box 19;high 18;low 0;room 0 0;rub 0;", 2, 3, 2);
        // As warm as high behind each unit of a rest, of a stand, of a roll and of a fold.
        wayFrom(83, "box 7;low 5;high 7;rub 0;room 0 11;room 7 0;", 3, 4, 13);
        way("box 10;low 5;high 9;rub 39;room 0 0;", 3, 8, 173);
        way("box 10;low 4;high 10;rub 0;room 0 10;", 3, 3, 3);
        way("box 40;low 40;high 40;rub 0;room 0 40;", 27, 9, 3, 3, 3);
        way("box 0;low 0;high 0;rub 0;room 0 0;", 27, 9, 3, 3, 3);
        // The second unit of the roll, and the fold, are in the hour in which they begin.
        noWayFrom(83, "box 3;low 0;high 6;rub 0;room 0 0;room 7 29;", 3);
        wayFrom(82, "box 7;low 6;high 12;rub 0;room 0 35;room 7 9;", 3, 4, 13);
        wayFrom(80, "box 10;low 6;high 14;rub 24;room 0 30;room 7 3;", 3, 6, 33);
        wayFrom(81, "box 7;low 7;high 12;rub 0;room 0 26;room 7 16;", 3, 4, 13);
        wayFrom(81, "box 6;low 6;high 8;rub 0;room 0 11;room 7 36;", 3, 3, 3);
        // One pass can be, and no second one behind any wait.
        way("low 3;high 9;rub 5;", 4, 3, 4);
        noWay("low 3;high 9;rub 5;", 6);
    }

    private static void fewestUnits() {
        Check.sentence(PART, "in the fewest UNITS together (to 120);");
        way("box 11;low 8;high 12;rub 28;room 0 8;", 729, 88, 223, 243, 243, 243, 243, 243);
        way("box 2;low 2;high 10;rub 6;room 0 28;", 729, 77, 3, 113, 123, 123, 123, 123);
        way("box 11;low 8;high 15;rub 42;room 0 3;", 9, 7, 3, 13);
        againstModel("box 6;low 5;high 22;rub 3;room 23 25;room 19 40;room 1 0;start 5;");
        againstModel("box 9;low 6;high 14;rub 49;room 6 1;start 21;");
        againstModel("box 8;low 4;high 14;rub 54;room 0 1;");
        againstModel("box 10;low 4;high 10;rub 32;room 0 0;");
    }

    private static void againstModel(String kitchen) {
        ButterLeaves x = Check.with(kitchen);
        Model model = new Model();
        model.tell(kitchen);
        for (int n : new int[] {2, 6, 12, 27, 36, 108, 243, 486, 729, 1024}) {
            int[] best = model.bestWay(n, false);
            Check.due(kitchen + " units to " + n, x.soonest(n, 0), best == null ? -1 : best[0]);
            for (int i = 0; i < 7; i++) {
                int due = best == null || i + 2 >= best.length ? -1 : best[i + 2];
                Check.due(kitchen + " pass " + i + " to " + n, x.pass(n, i), due);
            }
        }
    }

    private static void fewestPasses() {
        Check.sentence(PART, "of these the fewest PASSES,");
        String easy = "low 0;high 40;rub 0;";
        way(easy, 4, 3, 4);
        way(easy, 8, 6, 2, 4);
        way(easy, 16, 6, 4, 4);
        way(easy, 48, 9, 3, 4, 4);
        way(easy, 512, 15, 2, 4, 4, 4, 4);
    }

    private static void theFirst() {
        Check.sentence(PART, "then the first (PASS by PASS: the least wait,");
        // As soon: 0 0 1, 0 0 13, 0 1 0, 0 13 0, 13 0 0.
        way("box 10;low 8;high 16;rub 36;room 0 6;", 27, 10, 3, 3, 13);
        // As soon: 0 18 19, 0 19 18, 13 18 18.
        way("box 9;low 4;high 13;rub 41;room 0 6;", 27, 22, 3, 183, 193);
        // As soon: 14 13, 15 0.
        way("box 10;low 4;high 10;rub 32;room 0 0;", 9, 9, 143, 133);
        // As soon: 15 16 16, 15 17 15, 16 15 16, 16 16 15.
        way("box 11;low 6;high 12;rub 37;room 0 4;", 27, 20, 153, 163, 163);
        // As soon: 14 19 19, 14 20 18, 15 18 19.
        way("box 7;low 4;high 10;rub 42;room 0 3;", 27, 25, 143, 193, 193);
        // As soon: 0 1, 0 13, 13 0.
        way("box 8;low 4;high 11;rub 27;room 0 4;", 9, 7, 3, 13);
        // As soon: 1 19 0, 5 14 1 and others; the last wait is 0, for those ahead are less.
        wayFrom(76, "box 9;low 9;high 14;rub 0;room 0 1;room 7 20;", 27, 17, 13, 193, 3);
        wayFrom(81, "box 3;low 3;high 9;rub 0;room 0 34;room 7 11;", 81, 15, 13, 13, 13, 3);
        Check.sentence(PART, "then the least f).");
        String easy = "low 0;high 40;rub 0;";
        way(easy, 6, 6, 2, 3);
        way(easy, 12, 6, 3, 4);
        way(easy, 24, 9, 2, 3, 4);
        way(easy, 288, 15, 2, 3, 3, 4, 4);
        way("box 9;low 4;high 13;rub 41;room 0 6;", 24, 22, 2, 183, 194);
    }

    private static void fewest() {
        Check.sentence(PART, "FEWEST: the same with the fewest PASSES first, then the fewest UNITS.");
        String[] kitchens = {"", "low 0;high 40;rub 0;", "box 9;low 4;high 13;rub 41;room 0 6;",
            "box 11;low 8;high 12;rub 28;room 0 8;", "low 3;high 9;rub 5;"};
        for (String kitchen : kitchens) {
            ButterLeaves x = Check.with(kitchen);
            for (int n : new int[] {1, 2, 4, 5, 6, 8, 9, 16, 27, 64, 81, 256, 729, 1024}) {
                // A way less its last pass is a way too, and a sooner one: so the soonest has the fewest passes.
                Check.due(kitchen + " units to " + n, x.fewest(n, 0), x.soonest(n, 0));
                Check.due(kitchen + " passes to " + n, x.fewest(n, 1), x.soonest(n, 1));
            }
        }
        ButterLeaves y = Check.with("box 9;low 4;high 13;rub 41;room 0 6;");
        Check.due("units to 24", y.fewest(24, 0), 22);
        Check.due("passes to 24", y.fewest(24, 1), 3);
    }

    private static void none() {
        Check.sentence(PART, "(n 1: none.)");
        way("", 1, 0);
        way("low 40;high 0;", 1, 0);
        ButterLeaves x = new ButterLeaves();
        Check.due("fewest, units", x.fewest(1, 0), 0);
        Check.due("fewest, passes", x.fewest(1, 1), 0);
        Check.due("no pass", x.pass(1, 0), -1);
    }

    /** It is the latest: begun then all is well, begun later it never is. */
    private static void latestIs(String kitchen, String recipe, int unit) {
        ButterLeaves x = Check.with(kitchen, recipe);
        Check.due(kitchen + recipe + " latest", x.latest(0), unit);
        for (int first = Math.max(0, unit); first < 288; first++) {
            if (first % 100 == 0) {
                x = Check.with(kitchen, recipe);
            }
            x.begin(first);
            boolean well = x.wrong(0, 0) + x.wrong(0, 1) + x.wrong(0, 2) == -3;
            Check.due(kitchen + recipe + " begun with " + first, well ? 1 : 0, first == unit ? 1 : 0);
        }
        Check.due(kitchen + recipe + " latest, whatever begin() told", x.latest(0), unit);
    }

    private static void latest() {
        Check.sentence(PART, "LATEST: the last UNIT of the day behind which, begun then (0 to 287, from midnight on),");
        latestIs("", "turn;", 287);
        latestIs("low 0;high 12;room 0 40;room 8 10;room 20 40;", "stand 6;", 235);
        // Only a stand that begins with the first unit of the day is cold all the way.
        latestIs("room 0 0;room 1 40;high 4;", "stand 12;", 0);
        latestIs("room 0 0;room 1 40;high 4;", "stand 11;", 1);
        latestIs("room 0 0;room 1 40;high 4;", "stand 13;", -1);
        // Over midnight: cold from hour 23 to 1.
        latestIs("room 23 0;room 1 40;high 4;", "stand 13;", 287);
        latestIs("room 23 0;room 1 40;high 4;", "stand 24;", 276);
        latestIs("room 23 0;room 1 40;high 4;", "stand 25;", -1);
        latestIs("room 0 21;room 1 0;high 5;", "stand 1;", 287);
        latestIs("room 0 0;room 1 21;high 5;", "stand 1;", 11);
        latestIs("room 23 40;room 22 0;high 5;", "stand 1;", 275);
        // One hour of the day is cold: it must be begun with its first unit.
        for (int hour = 0; hour < 24; hour++) {
            latestIs("room " + hour + " 0;room " + (hour + 1) % 24 + " 40;high 4;", "stand 12;", 12 * hour);
        }
    }

    private static void latestOfAll() {
        Check.sentence(PART, "a RECIPE neither BREAKS nor RUNS (nor is STUCK).");
        latestIs("", "roll 2;", -1);
        latestIs("", "stand 3;roll 2;", 287);
        latestIs("", "stand 2;roll 2;", -1);
        latestIs("room 0 4;room 5 20;room 6 4;", "stand 3;roll 2;", 69);
        latestIs("high 4;", "stand 1;", -1);
        latestIs("box 19;", "turn;", -1);
        latestIs("", "book;", -1);
        latestIs("", "fold 2;rest 1;fold 2;", -1);
        latestIs("", "fold 2;rest 1;fold 3;", 287);
        // It runs if all of it is in the evening, and breaks if less than two units of the stand are.
        latestIs("room 0 4;room 10 20;room 12 40;", "stand 5;roll 2;fold 2;stand 12;", 286);
    }
}
