/** Part 3 of 'Terms', sentence by sentence: units of the day, warmth, where butter breaks and where it runs. */
final class TimeSentences {
    private static final String PART = "Terms 3";

    private TimeSentences() {
    }

    static void all() {
        units();
        day();
        stepUnits();
        places();
        firstWarmth();
        onTheBench();
        inTheBox();
        rub();
        breaks();
        runs();
        runsWithin();
        runsAtTheEnd();
    }

    private static void warmthIs(String kitchen, String recipe, int... warm) {
        warmthIs(Check.with(kitchen, recipe), kitchen + recipe, warm);
    }

    private static void warmthIs(ButterLeaves x, String told, int... warm) {
        for (int k = 0; k < warm.length; k++) {
            Check.due(told + " warmth behind " + k, x.behind(0, k, 3), warm[k]);
        }
    }

    private static void wrongIs(String kitchen, String recipe, int breaks, int runs) {
        wrongIs(Check.with(kitchen, recipe), kitchen + recipe, breaks, runs);
    }

    private static void wrongIs(ButterLeaves x, String told, int breaks, int runs) {
        Check.due(told + " breaks", x.wrong(0, 0), breaks);
        Check.due(told + " runs", x.wrong(0, 1), runs);
    }

    private static void units() {
        Check.sentence(PART, "TIME goes by UNITS of 5 minutes,");
        // Twelve units of an hour of 20 degrees: 56 70 83 94 104 113 121 128 135 141 146 151; then 0 degrees.
        warmthIs("room 0 20;room 7 0;", "stand 11;stand 1;stand 1;stand 1;", 40, 146, 151, 136, 123);
        Check.sentence(PART, "from hour start on");
        warmthIs("room 0 20;room 7 0;start 6;", "stand 1;", 40, 56);
        warmthIs("room 0 20;room 7 0;start 7;", "stand 1;", 40, 36);
        warmthIs("room 0 0;room 1 20;start 0;", "stand 12;stand 1;", 40, 15, 33);
        warmthIs("room 22 0;room 23 20;start 23;", "stand 1;", 40, 56);
        Check.sentence(PART, "(or from the UNIT of the day told by begin();");
        ButterLeaves x = Check.with("room 0 20;room 7 0;", "stand 1;stand 1;");
        x.begin(83);
        warmthIs(x, "the last unit of hour 6", 40, 56, 51);
        x.begin(84);
        warmthIs(x, "the first of hour 7", 40, 36, 33);
        x.begin(82);
        warmthIs(x, "the last but one of hour 6", 40, 56, 70);
        x.begin(0);
        warmthIs(x, "the first of the day", 40, 56, 70);
    }

    private static void day() {
        Check.sentence(PART, "behind hour 23 comes 0).");
        ButterLeaves x = Check.with("room 0 0;room 23 20;", "stand 1;stand 1;");
        x.begin(287);
        warmthIs(x, "the last unit of the day", 40, 56, 51);
        x.begin(286);
        warmthIs(x, "the last but one", 40, 56, 70);
        // Sixty hours from the last unit of the day on, each hour with its own room.
        StringBuilder rooms = new StringBuilder();
        for (int hour = 0; hour < 24; hour++) {
            rooms.append("room ").append(hour).append(' ').append(hour * 7 % 41).append(';');
        }
        for (int first : new int[] {0, 71, 143, 287}) {
            ButterLeaves y = Check.with(rooms.toString(), "stand 36;".repeat(20));
            y.begin(first);
            int warm = 40;
            for (int unit = 0; unit < 720; unit++) {
                warm += (10 * ((first + unit) / 12 % 24 * 7 % 41) - warm) / 10;
                if (unit % 36 == 35) {
                    Check.due("from " + first + ", behind " + unit, y.behind(0, unit / 36 + 1, 3), warm);
                    Check.due("gone", y.behind(0, unit / 36 + 1, 2), unit + 1);
                }
            }
        }
    }

    private static void stepUnits() {
        Check.sentence(PART, "STEPS take: roll 2, fold, book, tuck, cut 1, turn 0, rest and stand U");
        ButterLeaves x = Check.with("slab 12 12 0;",
                "roll 4;fold 2;book;turn;tuck 1;cut 1;rest 36;stand 36;rest 1;stand 1;fold 2;");
        int[] units = {2, 1, 1, 0, 1, 1, 36, 36, 1, 1, 1};
        int gone = 0;
        for (int k = 0; k < units.length; k++) {
            Check.due("units of step " + k, x.step(0, k, 2), units[k]);
            gone += units[k];
            Check.due("gone behind step " + k, x.behind(0, k + 1, 2), gone);
        }
        Check.due("none gone at first", x.behind(0, 0, 2), 0);
        for (int n = 2; n <= 4; n++) {
            ButterLeaves y = Check.with("slab 12 12 0;", "roll " + n + ";fold " + n + ";");
            Check.due("roll takes 2", y.step(0, 0, 2), 2);
            Check.due("fold takes 1", y.step(0, 1, 2), 1);
        }
    }

    private static void places() {
        Check.sentence(PART, "(a rest in the box, all others on the bench).");
        String warm = "slab 12 2 0;rub 0;room 0 24;";
        warmthIs(warm, "roll 2;", 40, 78);
        warmthIs(warm, "fold 2;", 40, 60);
        warmthIs(warm, "book;", 40, 60);
        warmthIs(warm, "tuck 1;", 40, 60);
        warmthIs(warm, "cut 1;", 40, 60);
        warmthIs(warm, "turn;", 40, 40);
        warmthIs(warm, "stand 1;", 40, 60);
        warmthIs(warm, "rest 1;", 40, 40);
        warmthIs(warm, "stand 1;rest 1;", 40, 60, 56);
    }

    private static void firstWarmth() {
        Check.sentence(PART, "WARMTH of butter in TENTHS, 10 times box at first:");
        warmthIs("", "turn;", 40, 40);
        warmthIs("box 0;", "turn;", 0, 0);
        warmthIs("box 1;", "turn;", 10, 10);
        warmthIs("box 40;", "turn;", 400, 400);
    }

    private static void onTheBench() {
        Check.sentence(PART, "in each UNIT on the bench it changes by what the room");
        warmthIs("room 0 40;", "stand 1;stand 2;", 40, 76, 137);
        warmthIs("room 0 0;box 40;", "stand 1;stand 2;", 400, 360, 292);
        Check.sentence(PART, "(in the hour in which the UNIT begins)");
        ButterLeaves x = Check.with("room 0 40;room 12 0;", "fold 2;roll 2;");
        x.begin(143);
        // The fold begins at 11:55, the roll in hour 12.
        warmthIs(x, "11:55", 40, 76, 73);
        x.begin(142);
        // The roll's first unit begins at 11:55, its second at 12:00: 108, 98, and 10 by the rub.
        warmthIs(x, "11:50", 40, 76, 108);
        Check.sentence(PART, "has more, in TENTHS, by 10 (cut toward 0);");
        warmthIs("room 0 3;", "stand 1;stand 36;", 40, 39, 39);
        warmthIs("room 0 5;", "stand 1;stand 36;", 40, 41, 41);
        warmthIs("room 0 4;", "stand 36;", 40, 40);
        warmthIs("box 1;room 0 0;", "stand 1;stand 36;", 10, 9, 9);
        warmthIs("box 2;room 0 0;", "stand 1;stand 1;stand 1;", 20, 18, 17, 16);
        warmthIs("box 0;room 0 1;", "stand 1;stand 36;", 0, 1, 1);
    }

    private static void inTheBox() {
        Check.sentence(PART, "in each of a rest by what box has more, by 5 (likewise);");
        // Warmer than the box by 16: 3 less, then 13, 11, 9, 8, 7, 6, 5: 1 less, and 4 stay.
        warmthIs("", "stand 1;rest 1;rest 1;rest 1;rest 1;rest 1;rest 1;rest 1;rest 1;rest 36;", 40, 56, 53, 51, 49, 48,
                47, 46, 45, 44, 44);
        // Colder than the box by 10: 2 more, then 8, 7, 6, 5: 1 more, and 4 stay.
        warmthIs("room 0 0;", "stand 3;rest 1;rest 1;rest 1;rest 1;rest 1;rest 36;", 40, 30, 32, 33, 34, 35, 36, 36);
        warmthIs("box 40;room 0 0;", "stand 1;rest 1;rest 35;", 400, 360, 368, 396);
    }

    private static void rub() {
        Check.sentence(PART, "at the end of a roll by rub more.");
        warmthIs("room 0 4;rub 7;", "roll 2;roll 3;turn;fold 2;", 40, 47, 54, 54, 53);
        warmthIs("room 0 4;rub 0;", "roll 2;", 40, 40);
        warmthIs("room 0 4;rub 99;", "roll 2;", 40, 139);
        warmthIs("room 0 4;rub 1;", "roll 4;", 40, 41);
        // 36, 33, and then 40 more; ahead of its units it would be 65.
        warmthIs("room 0 0;rub 40;", "roll 2;", 40, 73);
    }

    private static void breaks() {
        Check.sentence(PART, "It BREAKS in a roll that begins with WARMTH below 10 times low;");
        wrongIs("box 8;low 8;", "roll 2;", -1, -1);
        wrongIs("box 8;low 9;", "roll 2;", 0, -1);
        wrongIs("box 8;low 8;room 0 7;", "stand 1;roll 2;", 1, -1);
        wrongIs("box 8;low 8;room 0 8;", "stand 1;roll 2;", -1, -1);
        wrongIs("box 0;low 0;room 0 0;", "roll 2;", -1, -1);
        wrongIs("box 0;low 1;room 0 0;", "roll 2;", 0, -1);
        // Warm enough at its end, and rubbed: it has broken. Cold at its end: it has not.
        wrongIs("box 7;low 8;room 0 40;", "roll 2;", 0, -1);
        wrongIs("box 8;low 8;room 0 0;rub 0;", "roll 2;", -1, -1);
        wrongIs("box 8;low 8;room 0 0;rub 0;", "roll 2;roll 2;", 1, -1);
        // No other step breaks it.
        wrongIs("slab 12 2 0;low 40;", "fold 2;tuck 1;turn;turn;cut 1;rest 2;stand 1;", -1, -1);
        wrongIs("slab 12 2 0;low 40;", "book;roll 2;", 1, -1);
        wrongIs("slab 2 2 0;low 40;", "roll 2;roll 3;roll 4;", 0, -1);
    }

    private static void runs() {
        Check.sentence(PART, "it RUNS in a STEP in which WARMTH is above 10 times high,");
        wrongIs("box 18;high 18;room 0 18;", "stand 1;", -1, -1);
        wrongIs("box 18;high 18;room 0 19;", "stand 1;", -1, 0);
        wrongIs("box 18;high 17;room 0 18;", "stand 1;", -1, 0);
        wrongIs("box 40;high 40;room 0 40;rub 0;", "stand 36;roll 2;rest 36;", -1, -1);
        wrongIs("box 0;high 0;room 0 0;rub 0;low 0;", "stand 36;roll 2;rest 36;", -1, -1);
        wrongIs("box 0;high 0;room 0 1;", "stand 1;", -1, 0);
        wrongIs("slab 12 2 0;box 18;room 0 19;", "fold 2;", -1, 0);
        wrongIs("slab 12 2 0;box 18;room 0 19;", "book;", -1, 0);
        wrongIs("slab 12 2 0;box 18;room 0 19;", "tuck 1;", -1, 0);
        wrongIs("slab 12 2 0;box 18;room 0 19;", "cut 1;", -1, 0);
        wrongIs("slab 12 9 0;box 18;room 0 19;", "turn;rest 9;cut 1;", -1, 2);
        // Warm as it begins, not behind its one unit.
        wrongIs("box 19;room 0 0;", "stand 1;", -1, -1);
        wrongIs("box 19;room 0 18;", "stand 1;", -1, 0);
    }

    private static void runsWithin() {
        Check.sentence(PART, "behind one of its UNITS,");
        ButterLeaves x = Check.with("room 0 40;room 1 0;high 7;", "stand 2;");
        x.begin(11);
        // 76 behind the first unit, 69 at the end.
        warmthIs(x, "a stand over the hour", 40, 69);
        wrongIs(x, "a stand over the hour", -1, 0);
        ButterLeaves y = Check.with("box 10;room 0 40;room 1 0;high 12;rub 0;", "roll 2;");
        y.begin(11);
        // 130 behind the first unit, 117 at the end.
        warmthIs(y, "a roll over the hour", 100, 117);
        wrongIs(y, "a roll over the hour", -1, 0);
        ButterLeaves z = Check.with("room 0 40;room 1 0;high 7;", "stand 1;rest 2;");
        z.begin(11);
        // 76, then 69 and 64 in the box: the rest does not run.
        wrongIs(z, "a rest behind", -1, 0);
        ButterLeaves w = Check.with("high 13;room 0 40;", "stand 3;rest 1;rest 1;");
        // 76 108 137, then 118: the stand runs, and no rest would be the first.
        warmthIs(w, "three units", 40, 137, 118, 103);
        wrongIs(w, "three units", -1, 0);
        ButterLeaves v = Check.with("box 5;room 0 40;room 1 0;high 7;", "rest 1;stand 1;rest 3;stand 2;");
        v.begin(6);
        wrongIs(v, "the third step of the recipe", -1, 1);
    }

    private static void runsAtTheEnd() {
        Check.sentence(PART, "or at its end.");
        wrongIs("box 18;room 0 18;rub 0;", "roll 2;", -1, -1);
        wrongIs("box 18;room 0 18;rub 1;", "roll 2;", -1, 0);
        wrongIs("box 8;room 0 8;rub 99;high 18;", "roll 2;", -1, -1);
        wrongIs("box 9;room 0 9;rub 91;high 18;", "roll 2;", -1, 0);
        // The rub at the end of a roll is in the roll, even if the next step's first unit cools it.
        // 81 73 172, then 155; with less rub 170.
        wrongIs("box 9;room 0 0;rub 99;high 17;", "roll 2;stand 1;", -1, 0);
        wrongIs("box 9;room 0 0;rub 97;high 17;", "roll 2;stand 1;", -1, -1);
        // A turn has no units, but an end.
        wrongIs("box 19;room 0 0;", "turn;", -1, 0);
        wrongIs("box 18;room 0 0;", "turn;", -1, -1);
    }
}
