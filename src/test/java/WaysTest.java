/** Promises 24 to 26: the soonest way, its passes, the fewest passes. */
public final class WaysTest {
    public static void main(String[] args) {
        none();
        factors();
        waits();
        hours();
        againstModel();
        wrongInputs();
        Check.end();
    }

    private static void way(ButterLeaves x, int n, int units, int... passes) {
        int count = units < 0 ? -1 : passes.length;
        Check.due("soonest(" + n + ", 0)", x.soonest(n, 0), units);
        Check.due("soonest(" + n + ", 1)", x.soonest(n, 1), count);
        Check.due("fewest(" + n + ", 0)", x.fewest(n, 0), units);
        Check.due("fewest(" + n + ", 1)", x.fewest(n, 1), count);
        for (int i = 0; i < passes.length; i++) {
            Check.due("pass(" + n + ", " + i + ")", x.pass(n, i), passes[i]);
        }
        Check.due("no further pass of " + n, x.pass(n, passes.length), -1);
        Check.due("no pass of " + n + " ahead", x.pass(n, -1), -1);
    }

    private static void none() {
        ButterLeaves x = Check.with("low 0;high 40;rub 0;");
        way(x, 1, 0);
        int[] noProducts = {5, 7, 10, 11, 13, 14, 15, 25, 49, 100, 125, 1000, 1021, 1023};
        for (int n : noProducts) {
            way(x, n, -1);
        }
        ButterLeaves y = Check.with("low 0;high 5;");
        way(y, 1, 0);
        way(y, 2, -1);
        way(y, 1024, -1);
        // Cooling takes more than 12 units: there is a first pass, and no second one.
        ButterLeaves z = Check.with("low 3;high 9;rub 5;");
        way(z, 2, 3, 2);
        way(z, 4, 3, 4);
        way(z, 6, -1);
        way(z, 729, -1);
    }

    private static void factors() {
        ButterLeaves x = Check.with("low 0;high 40;rub 0;");
        way(x, 2, 3, 2);
        way(x, 3, 3, 3);
        way(x, 4, 3, 4);
        way(x, 6, 6, 2, 3);
        way(x, 8, 6, 2, 4);
        way(x, 9, 6, 3, 3);
        way(x, 12, 6, 3, 4);
        way(x, 16, 6, 4, 4);
        way(x, 24, 9, 2, 3, 4);
        way(x, 27, 9, 3, 3, 3);
        way(x, 486, 18, 2, 3, 3, 3, 3, 3);
        way(x, 512, 15, 2, 4, 4, 4, 4);
        way(x, 729, 18, 3, 3, 3, 3, 3, 3);
        way(x, 972, 18, 3, 3, 3, 3, 3, 4);
        way(x, 1024, 15, 4, 4, 4, 4, 4);
    }

    private static void waits() {
        way(new ButterLeaves(), 3, 6, 153);
        ButterLeaves x = Check.with("box 3;low 3;high 9;rub 5;");
        way(x, 2, 3, 2);
        way(x, 6, 12, 2, 63);
        way(x, 27, 22, 3, 63, 73);
        ButterLeaves y = Check.with("box 8;");
        way(y, 4, 3, 4);
        y.begin(5);
        way(y, 4, 3, 4);
        Check.kitchen(y, "box 7;");
        // A stand of one unit: 70 and 13 are above 80.
        way(y, 4, 4, 134);
        // 140 behind the roll, 136 behind the fold: it cools in the box, 129 124 120 116 113 111, for another roll.
        ButterLeaves z = Check.with("box 10;low 10;room 0 10;high 15;rub 40;");
        way(z, 4, 3, 4);
        way(z, 6, 12, 2, 63);
        // Where the box is as warm as the room, rests of 1 are ahead of stands of 1, and no wait ahead of both.
        ButterLeaves w = Check.with("box 20;low 0;high 40;rub 0;");
        way(w, 36, 9, 3, 3, 4);
    }

    private static void hours() {
        ButterLeaves x = Check.with("room 0 0;room 7 20;start 6;");
        // Butter gets no warmer in a room of 0 degrees: 13 units till the first one in hour 7 is behind, 12 are most.
        way(x, 2, -1);
        x.begin(80);
        // Four units of 0: 36 33 30 27, then 44 59 73 85 in hour 7: a stand of 8, a roll.
        way(x, 2, 11, 202);
        x.begin(84);
        way(x, 2, 6, 152);
        x.begin(72);
        way(x, 2, -1);
        x.image();
        x.begin(84);
        x.restore();
        way(x, 2, -1);
    }

    /** Kitchens in which several ways take as long, or the longest waits are needed. */
    private static void againstModel() {
        String[] kitchens = {"box 6;low 5;high 22;rub 3;room 23 25;room 19 40;room 1 0;start 5;",
            "box 9;low 6;high 14;rub 49;room 6 1;start 21;", "box 4;low 4;high 9;rub 38;room 8 6;room 19 27;room 9 0;start 9;",
            "box 6;low 4;high 18;rub 58;room 18 6;room 14 26;start 17;",
            "box 7;low 1;high 16;rub 55;room 15 0;room 0 36;room 22 11;start 14;",
            "box 9;low 2;high 9;rub 0;room 8 32;room 21 5;start 20;", "box 2;low 2;high 13;rub 25;room 17 33;room 1 4;room 6 16;start 23;",
            "box 1;low 0;high 9;rub 27;start 0;", "box 5;low 9;high 12;rub 24;room 21 11;start 20;",
            "box 4;low 8;high 13;rub 24;room 22 10;start 2;", "box 40;low 40;high 40;rub 0;room 3 40;"};
        int[] leaves = {2, 4, 6, 27, 48, 81, 243, 729};
        for (String kitchen : kitchens) {
            ButterLeaves x = Check.with(kitchen);
            Model model = new Model();
            model.tell(kitchen);
            for (int n : leaves) {
                int[] best = model.bestWay(n, false);
                int[] few = model.bestWay(n, true);
                Check.due("ways in " + kitchen, java.util.Arrays.equals(best, few) ? 1 : 0, 1);
                way(x, n, best == null ? -1 : best[0],
                        best == null ? new int[0] : java.util.Arrays.copyOfRange(best, 2, best.length));
            }
        }
    }

    private static void wrongInputs() {
        ButterLeaves x = new ButterLeaves();
        int[] none = {0, -1, 1025, Integer.MIN_VALUE, Integer.MAX_VALUE};
        for (int n : none) {
            Check.dueIllegal("soonest", () -> x.soonest(n, 0));
            Check.dueIllegal("fewest", () -> x.fewest(n, 0));
            Check.dueIllegal("pass", () -> x.pass(n, 0));
        }
        int[] noWhats = {-1, 2, Integer.MIN_VALUE, Integer.MAX_VALUE};
        for (int what : noWhats) {
            Check.dueIllegal("soonest", () -> x.soonest(3, what));
            Check.dueIllegal("fewest", () -> x.fewest(5, what));
            Check.due("pass", x.pass(3, what), -1);
        }
    }
}
