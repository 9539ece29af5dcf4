/** Promises 21 to 23, and units and warmth of promise 10: butter that warms, breaks and runs; begin; latest. */
public final class WarmthTest {
    public static void main(String[] args) {
        warmth();
        hours();
        breaks();
        runs();
        begin();
        latest();
        wrongInputs();
        Check.end();
    }

    private static void warmth() {
        ButterLeaves x = Check.with("", "roll 3;fold 3;turn;rest 6;cut 1;tuck 1;");
        int[] gone = {0, 2, 3, 3, 9, 10};
        int[] warm = {40, 80, 92, 92, 56, 70};
        for (int k = 0; k < gone.length; k++) {
            Check.due("gone behind " + k, x.behind(0, k, 2), gone[k]);
            Check.due("warmth behind " + k, x.behind(0, k, 3), warm[k]);
        }
        ButterLeaves y = Check.with("room 0 4;box 5;", "stand 1;rest 36;");
        Check.due("49 is 5 tenths less by 10: cut toward 0", y.behind(0, 1, 3), 49);
        Check.due("1 tenth by 5 is none", y.behind(0, 2, 3), 49);
        ButterLeaves z = Check.with("room 0 0;box 1;", "stand 36;");
        Check.due("9 tenths stay", z.behind(0, 1, 3), 9);
    }

    private static void hours() {
        ButterLeaves x = Check.with("room 0 20;room 7 0;", "stand 14;");
        Check.due("two units in hour 7", x.behind(0, 1, 3), 123);
        x.begin(73);
        Check.due("three units in it", x.behind(0, 1, 3), 108);
        Check.kitchen(x, "room 0 0;room 23 20;start 23;");
        x.begin(287);
        // 40 and 16 in hour 23, then 13 times a tenth less: 51 46 42 38 35 32 29 27 25 23 21 19 18.
        Check.due("hour 0 behind 23", x.behind(0, 1, 3), 18);
    }

    private static void wrongIs(String kitchen, String recipe, int breaks, int runs) {
        ButterLeaves x = Check.with(kitchen, recipe);
        Check.due(kitchen + " " + recipe + " breaks", x.wrong(0, 0), breaks);
        Check.due(kitchen + " " + recipe + " runs", x.wrong(0, 1), runs);
    }

    private static void breaks() {
        wrongIs("", "fold 2;roll 2;roll 2;", 1, -1);
        wrongIs("box 8;", "roll 2;", -1, -1);
        wrongIs("box 8;low 9;", "roll 2;", 0, -1);
        wrongIs("box 7;", "roll 2;", 0, -1);
        wrongIs("", "fold 2;cut 1;book;tuck 1;", -1, -1);
        wrongIs("", "fold 4;roll 2;", -1, -1);
    }

    private static void runs() {
        wrongIs("box 18;room 0 18;rub 0;", "stand 9;roll 2;", -1, -1);
        wrongIs("box 18;room 0 18;rub 1;", "stand 9;roll 2;", -1, 1);
        wrongIs("box 18;room 0 18;high 17;", "stand 9;", -1, 0);
        wrongIs("box 19;room 0 0;", "stand 1;", -1, -1);
        wrongIs("box 19;room 0 0;", "turn;stand 1;", -1, 0);
        wrongIs("box 19;room 0 0;", "rest 1;", -1, 0);
        // Above behind the first unit, no more at the end.
        wrongIs("room 6 40;room 7 0;high 6;", "stand 36;", -1, 0);
        ButterLeaves x = Check.with("room 0 40;room 1 0;high 6;", "stand 9;");
        x.begin(11);
        Check.due("at the end it is cool", x.behind(0, 1, 3) <= 60 ? 1 : 0, 1);
        Check.due("but it ran", x.wrong(0, 1), 0);
        wrongIs("room 0 30;", "stand 4;stand 4;stand 36;", -1, 1);
    }

    private static void begin() {
        ButterLeaves x = Check.with("room 0 5;room 12 30;", "stand 36;");
        Check.due("what it was", x.begin(0), 72);
        Check.due("what it was then", x.begin(287), 0);
        Check.due("told", x.told(8), 287);
        x.begin(100);
        Check.due("cold", x.wrong(0, 1), -1);
        x.begin(144);
        Check.due("warm", x.wrong(0, 1), 0);
        Check.dueIllegal("begin(-1)", () -> x.begin(-1));
        Check.dueIllegal("begin(288)", () -> x.begin(288));
        Check.due("it stays", x.told(8), 144);
    }

    private static void latest() {
        ButterLeaves x = Check.with("low 0;high 12;room 0 40;room 8 10;room 20 40;", "stand 6;", "book;", "rest 36;");
        Check.due("one unit in the warm room", x.latest(0), 235);
        x.begin(3);
        Check.due("whatever begin says", x.latest(0), 235);
        Check.due("stuck", x.latest(1), -1);
        Check.due("always", x.latest(2), 287);
        Check.kitchen(x, "low 0;high 12;room 0 40;room 8 10;room 20 20;");
        // Six units of 20 degrees: 113 at most; five and one of 40: 133.
        Check.due("in the new kitchen", x.latest(0), 282);
        ButterLeaves y = Check.with("", "roll 2;", "stand 3;roll 2;");
        Check.due("breaks at all times", y.latest(0), -1);
        Check.due("never breaks", y.latest(1), 287);
        ButterLeaves z = Check.with("room 0 21;room 1 0;high 5;", "stand 1;");
        Check.due("only in hour 0 it runs", z.latest(0), 287);
        ButterLeaves v = Check.with("room 0 0;room 1 40;high 4;", "stand 12;");
        Check.due("only the whole of hour 0 is cold enough", v.latest(0), 0);
        ButterLeaves w = Check.with("room 0 0;room 1 21;high 5;", "stand 1;");
        Check.due("only in hour 0 it does not", w.latest(0), 11);
    }

    private static void wrongInputs() {
        ButterLeaves x = Check.with("", "turn;");
        Check.dueMissing("wrong(1, 9)", () -> x.wrong(1, 9));
        Check.dueMissing("wrong(-1, 0)", () -> x.wrong(-1, 0));
        Check.dueIllegal("wrong(0, 3)", () -> x.wrong(0, 3));
        Check.dueIllegal("wrong(0, -1)", () -> x.wrong(0, -1));
        Check.dueMissing("latest(1)", () -> x.latest(1));
        Check.dueMissing("latest(-1)", () -> x.latest(-1));
        Check.due("no step is wrong", x.wrong(0, 0) + x.wrong(0, 1) + x.wrong(0, 2), -3);
    }
}
