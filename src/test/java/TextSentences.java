/** Part 1 of 'Terms', sentence by sentence: kitchens and recipes as texts, and their faults. */
final class TextSentences {
    private static final String PART = "Terms 1";
    private static final int CANNOT_STAND = 1;
    private static final int NO_SUCH_NUMBER = 2;
    private static final int TOO_MANY = 3;

    private TextSentences() {
    }

    static void all() {
        lengths();
        clauseCount();
        slab();
        rim();
        weight();
        room();
        degrees();
        rubAndStart();
        lastCounts();
        roomByHours();
        stepCount();
        stepNumbers();
        stepsWithoutNumber();
        digits();
        letters();
        blanks();
        firstFromTheLeft();
        cannotStand();
        endsTooEarly();
        noSuchNumber();
        tooMany();
        allBytes();
    }

    // ---- what a text answers

    private static void taken(String text, int what, int value) {
        ButterLeaves x = new ButterLeaves();
        Check.due("kitchen '" + text + "' is taken", Check.kitchen(x, text) > 0 ? 1 : 0, 1);
        Check.due("kitchen '" + text + "' has no fault", x.fault(), -1);
        Check.due("kitchen '" + text + "' told(" + what + ")", x.told(what), value);
    }

    private static void refused(String text, int kind, int place) {
        ButterLeaves x = new ButterLeaves();
        Check.due("kitchen '" + text + "'", Check.kitchen(x, text), kind - 10);
        Check.due("fault of kitchen '" + text + "'", x.fault(), place);
    }

    private static void takenRecipe(String text, int steps) {
        ButterLeaves x = new ButterLeaves();
        Check.due("recipe '" + text + "'", Check.recipe(x, text), 0);
        Check.due("recipe '" + text + "' has no fault", x.fault(), -1);
        Check.due("recipe '" + text + "' steps", x.told(9) == 1 ? x.steps(0, 0) : -1, steps);
    }

    private static void refusedRecipe(String text, int kind, int place) {
        ButterLeaves x = new ButterLeaves();
        Check.due("recipe '" + text + "'", Check.recipe(x, text), kind - 10);
        Check.due("fault of recipe '" + text + "'", x.fault(), place);
        Check.due("recipe '" + text + "' is not told", x.told(9), 0);
    }

    /** All numbers around a range: those in it are told, all others are none such. */
    private static void range(String ahead, String behind, int what, int least, int most) {
        for (int n = 0; n <= most + 12; n++) {
            boolean edge = n <= least + 3 || n >= most - 3 || n % 7 == 0;
            if (!edge) {
                continue;
            }
            if (n >= least && n <= most) {
                taken(ahead + n + behind, what, n);
            } else {
                refused(ahead + n + behind, NO_SUCH_NUMBER, ahead.length());
            }
        }
    }

    // ---- lengths and counts

    private static void lengths() {
        Check.sentence(PART, "TWO TEXTS of up to 400 bytes.");
        taken(" ".repeat(393) + "box 7 ;", 4, 7);
        taken("box 7;" + " ".repeat(394), 4, 7);
        taken("box " + "0".repeat(394) + "7;", 4, 7);
        takenRecipe(" ".repeat(394) + "book ;", 1);
        takenRecipe("roll " + "0".repeat(393) + "2;", 1);
        refused(" ".repeat(394) + "box 7 ", CANNOT_STAND, 400);
        refusedRecipe(" ".repeat(400), CANNOT_STAND, 400);
        refusedRecipe("turn;" + " ".repeat(394) + "x", CANNOT_STAND, 399);
    }

    private static void clauseCount() {
        Check.sentence(PART, "A KITCHEN: { CLAUSE \";\" }, at most 30.");
        taken("", 4, 4);
        taken("box 5;", 4, 5);
        taken("box 5;low 6;", 5, 6);
        taken("box 5;".repeat(29) + "box 6;", 4, 6);
        taken("box 5;".repeat(28) + "box 6;", 4, 6);
        refused("box 5;".repeat(30) + "box 6;", TOO_MANY, 180);
        refused(";", CANNOT_STAND, 0);
        refused("box 5;;", CANNOT_STAND, 6);
        refused("box 5", CANNOT_STAND, 5);
        refused("box 5 low 6;", CANNOT_STAND, 6);
        refused("box 5,low 6;", CANNOT_STAND, 5);
    }

    // ---- clauses

    private static void slab() {
        Check.sentence(PART, "CLAUSE: \"slab\" X Y R (CELLS across and down, 2 to 12;");
        range("slab ", " 12 0;", 0, 2, 12);
        range("slab 12 ", " 0;", 1, 2, 12);
        range("slab 2 ", " 0;", 1, 2, 12);
        ButterLeaves x = new ButterLeaves();
        Check.due("the fewest cells", Check.kitchen(x, "slab 2 2 0;"), 4);
        Check.due("the most cells", Check.kitchen(x, "slab 12 12 0;"), 144);
        refused("slab;", CANNOT_STAND, 4);
        refused("slab 6;", CANNOT_STAND, 6);
        refused("slab 6 4;", CANNOT_STAND, 8);
        refused("slab 6 4 0 0;", CANNOT_STAND, 11);
        Check.sentence(PART, "6 4 0 without),");
        taken("box 5;", 0, 6);
        taken("box 5;", 1, 4);
        taken("box 5;", 2, 0);
        Check.due("24 cells without", Check.kitchen(x, "box 5;"), 24);
    }

    private static void rim() {
        Check.sentence(PART, "RIM R, 0 to 3;");
        range("slab 12 12 ", ";", 2, 0, 3);
        Check.sentence(PART, "R twice less than X, and less than Y;");
        for (int x = 2; x <= 12; x++) {
            for (int y = 2; y <= 12; y++) {
                for (int r = 0; r <= 3; r++) {
                    String ahead = "slab " + x + " " + y + " ";
                    if (2 * r < x && 2 * r < y) {
                        taken(ahead + r + ";", 2, r);
                    } else {
                        refused(ahead + r + ";", NO_SUCH_NUMBER, ahead.length());
                    }
                }
            }
        }
    }

    private static void weight() {
        Check.sentence(PART, "\"weight\" G (1 to 9,999 grams; 1,000),");
        range("weight ", ";", 3, 1, 9999);
        taken("box 5;", 3, 1000);
        refused("weight;", CANNOT_STAND, 6);
        refused("weight 5 5;", CANNOT_STAND, 9);
    }

    private static void room() {
        Check.sentence(PART, "\"room\" H T (from hour H, 0 to 23, on T degrees),");
        for (int hour = 0; hour <= 23; hour++) {
            ButterLeaves x = Check.with("room 0 1;room " + hour + " 33;");
            Check.due("from hour " + hour + " on", x.room(hour), 33);
            Check.due("ahead of hour " + hour, x.room(hour == 0 ? 23 : hour - 1), hour == 0 ? 33 : 1);
            Check.due("to the last hour", x.room(23), 33);
        }
        refused("room 24 5;", NO_SUCH_NUMBER, 5);
        refused("room 100 5;", NO_SUCH_NUMBER, 5);
        refused("room 5;", CANNOT_STAND, 6);
        refused("room;", CANNOT_STAND, 4);
        refused("room 5 5 5;", CANNOT_STAND, 9);
    }

    private static void degrees() {
        Check.sentence(PART, "\"box\" T (4),");
        taken("low 5;", 4, 4);
        refused("box;", CANNOT_STAND, 3);
        refused("box 5 5;", CANNOT_STAND, 6);
        Check.sentence(PART, "\"low\" T (8),");
        taken("box 5;", 5, 8);
        refused("low;", CANNOT_STAND, 3);
        refused("low 5 5;", CANNOT_STAND, 6);
        Check.sentence(PART, "\"high\" T (18),");
        taken("box 5;", 6, 18);
        refused("high;", CANNOT_STAND, 4);
        refused("high 5 5;", CANNOT_STAND, 7);
        Check.sentence(PART, "T: 0 to 40.");
        range("box ", ";", 4, 0, 40);
        range("low ", ";", 5, 0, 40);
        range("high ", ";", 6, 0, 40);
        for (int t = 0; t <= 44; t++) {
            ButterLeaves x = new ButterLeaves();
            Check.due("room 7 " + t, Check.kitchen(x, "room 7 " + t + ";"), t <= 40 ? 24 : -8);
            Check.due("fault of room 7 " + t, x.fault(), t <= 40 ? -1 : 7);
            Check.due("degrees of room 7 " + t, x.room(7), t <= 40 ? t : 20);
        }
    }

    private static void rubAndStart() {
        Check.sentence(PART, "\"rub\" N (0 to 99 TENTHS of a degree; 10),");
        range("rub ", ";", 7, 0, 99);
        taken("box 5;", 7, 10);
        refused("rub;", CANNOT_STAND, 3);
        refused("rub 5 5;", CANNOT_STAND, 6);
        Check.sentence(PART, "or \"start\" H (6).");
        for (int hour = 0; hour <= 23; hour++) {
            taken("start " + hour + ";", 8, 12 * hour);
        }
        refused("start 24;", NO_SUCH_NUMBER, 6);
        refused("start 25;", NO_SUCH_NUMBER, 6);
        taken("box 5;", 8, 72);
        refused("start;", CANNOT_STAND, 5);
        refused("start 5 5;", CANNOT_STAND, 8);
    }

    private static void lastCounts() {
        Check.sentence(PART, "Of one word the last counts (of room: of one H).");
        taken("slab 7 8 3;slab 9 5 1;", 0, 9);
        taken("slab 7 8 3;slab 9 5 1;", 1, 5);
        taken("slab 7 8 3;slab 9 5 1;", 2, 1);
        taken("weight 5;box 1;weight 6;", 3, 6);
        taken("box 5;box 6;", 4, 6);
        taken("box 5;box 6;box 5;", 4, 5);
        taken("low 5;low 6;", 5, 6);
        taken("high 5;high 6;", 6, 6);
        taken("rub 5;rub 6;", 7, 6);
        taken("start 5;start 7;", 8, 84);
        ButterLeaves x = Check.with("room 5 30;room 8 31;room 5 12;");
        Check.due("the last of hour 5", x.room(5), 12);
        Check.due("hour 8 stays", x.room(8), 31);
        ButterLeaves y = Check.with("room 8 31;room 5 30;room 8 0;");
        Check.due("0 degrees count too", y.room(8), 0);
        Check.due("hour 5 stays", y.room(7), 30);
    }

    private static void roomByHours() {
        Check.sentence(PART, "In an hour the room has the T of the latest H told up to it,");
        ButterLeaves x = Check.with("room 17 3;room 4 11;room 9 25;");
        int[] due = {3, 3, 3, 3, 11, 11, 11, 11, 11, 25, 25, 25, 25, 25, 25, 25, 25, 3, 3, 3, 3, 3, 3, 3};
        for (int hour = 0; hour < 24; hour++) {
            Check.due("room(" + hour + ")", x.room(hour), due[hour]);
        }
        Check.sentence(PART, "else (ahead of all) that of the greatest H;");
        ButterLeaves y = Check.with("room 23 1;room 1 2;room 22 3;");
        Check.due("hour 0 has that of hour 23", y.room(0), 1);
        Check.due("hour 1 has its own", y.room(1), 2);
        ButterLeaves z = Check.with("room 23 7;");
        Check.due("one for all, the first hour", z.room(0), 7);
        Check.due("one for all, ahead of it", z.room(22), 7);
        ButterLeaves w = Check.with("room 0 5;room 23 6;");
        Check.due("hour 0 told is not ahead of all", w.room(0), 5);
        Check.sentence(PART, "20 without any.");
        ButterLeaves v = Check.with("room 3 9;");
        Check.kitchen(v, "box 5;");
        for (int hour = 0; hour < 24; hour++) {
            Check.due("room(" + hour + ")", v.room(hour), 20);
        }
    }

    // ---- steps

    private static void stepCount() {
        Check.sentence(PART, "A RECIPE: { STEP \";\" }, 1 to 20.");
        refusedRecipe("", CANNOT_STAND, 0);
        takenRecipe("turn;", 1);
        takenRecipe("turn;turn;", 2);
        takenRecipe("turn;".repeat(19), 19);
        takenRecipe("turn;".repeat(20), 20);
        refusedRecipe("turn;".repeat(21), TOO_MANY, 100);
        refusedRecipe("turn;".repeat(40), TOO_MANY, 100);
        refusedRecipe(";", CANNOT_STAND, 0);
        refusedRecipe("turn;;", CANNOT_STAND, 5);
        refusedRecipe("turn turn;", CANNOT_STAND, 5);
        refusedRecipe("turn", CANNOT_STAND, 4);
    }

    private static void numbered(String word, int kind, int least, int most) {
        for (int n = 0; n <= most + 12; n++) {
            String text = word + " " + n + ";";
            if (n < least || n > most) {
                refusedRecipe(text, NO_SUCH_NUMBER, word.length() + 1);
                continue;
            }
            takenRecipe(text, 1);
            ButterLeaves x = Check.with("", text);
            Check.due("kind of " + text, x.step(0, 0, 0), kind);
            Check.due("number of " + text, x.step(0, 0, 1), n);
        }
        refusedRecipe(word + ";", CANNOT_STAND, word.length());
        refusedRecipe(word + " 2 2;", CANNOT_STAND, word.length() + 3);
    }

    private static void stepNumbers() {
        Check.sentence(PART, "STEP: \"roll\" N (2 to 4),");
        numbered("roll", 0, 2, 4);
        Check.sentence(PART, "\"fold\" N (2 to 4),");
        numbered("fold", 1, 2, 4);
        Check.sentence(PART, "\"tuck\" N, \"cut\" N (1 to 9 each),");
        numbered("tuck", 3, 1, 9);
        numbered("cut", 4, 1, 9);
        Check.sentence(PART, "\"rest\" U, or \"stand\" U (1 to 36 each).");
        numbered("rest", 6, 1, 36);
        numbered("stand", 7, 1, 36);
    }

    private static void unnumbered(String word, int kind) {
        takenRecipe(word + ";", 1);
        ButterLeaves x = Check.with("", word + ";");
        Check.due("kind of " + word, x.step(0, 0, 0), kind);
        Check.due("number of " + word, x.step(0, 0, 1), 0);
        refusedRecipe(word + " 2;", CANNOT_STAND, 5);
        refusedRecipe(word + "2;", CANNOT_STAND, 4);
        refusedRecipe(word + " 0;", CANNOT_STAND, 5);
    }

    private static void stepsWithoutNumber() {
        Check.sentence(PART, "\"book\",");
        unnumbered("book", 2);
        Check.sentence(PART, "\"turn\",");
        unnumbered("turn", 5);
    }

    // ---- signs

    private static void digits() {
        Check.sentence(PART, "Numbers: digits, as many as stand there;");
        taken("box 0040;", 4, 40);
        taken("box 00;", 4, 0);
        taken("box40;", 4, 40);
        taken("box 12;", 4, 12);
        refused("box 400;", NO_SUCH_NUMBER, 4);
        refused("box 4 0;", CANNOT_STAND, 6);
        // Numbers that come back into the range if a count of 32 or 64 bits wraps around.
        refused("box 4294967300;", NO_SUCH_NUMBER, 4);
        refused("box 2147483652;", NO_SUCH_NUMBER, 4);
        refused("box 18446744073709551620;", NO_SUCH_NUMBER, 4);
        refused("weight 4294967297;", NO_SUCH_NUMBER, 7);
        StringBuilder number = new StringBuilder("10");
        for (int length = 3; length < 390; length++) {
            refused("box " + number.append('0') + ";", NO_SUCH_NUMBER, 4);
            refused("weight 999" + number.substring(1) + "9;", NO_SUCH_NUMBER, 7);
        }
        refusedRecipe("roll 4294967298;", NO_SUCH_NUMBER, 5);
        takenRecipe("roll2;fold3;tuck9;cut01;rest036;stand36;", 6);
        refused("slab 6,4 0;", CANNOT_STAND, 6);
        refused("slab 640;", NO_SUCH_NUMBER, 5);
        refused("slab 12120;", NO_SUCH_NUMBER, 5);
    }

    private static void letters() {
        Check.sentence(PART, "WORDS: small letters, as many as stand there;");
        refused("boxes 4;", CANNOT_STAND, 0);
        refused("boxlow 4;", CANNOT_STAND, 0);
        refused("bo 4;", CANNOT_STAND, 0);
        refused("b 4;", CANNOT_STAND, 0);
        refused("bo x 4;", CANNOT_STAND, 0);
        refused("Box 4;", CANNOT_STAND, 0);
        refused("boX 4;", CANNOT_STAND, 0);
        refused("boxX 4;", CANNOT_STAND, 3);
        refused("box_4;", CANNOT_STAND, 3);
        refusedRecipe("rolls 2;", CANNOT_STAND, 0);
        refusedRecipe("turnturn;", CANNOT_STAND, 0);
        refusedRecipe("turns;", CANNOT_STAND, 0);
        refusedRecipe("tur;", CANNOT_STAND, 0);
        refusedRecipe("TURN;", CANNOT_STAND, 0);
        refusedRecipe("turnX;", CANNOT_STAND, 4);
        // The words of the other text can't stand here.
        for (String word : new String[] {"slab", "weight", "room", "box", "low", "high", "rub", "start"}) {
            refusedRecipe(word + " 6 4 0;", CANNOT_STAND, 0);
        }
        for (String word : new String[] {"roll", "fold", "book", "tuck", "cut", "turn", "rest", "stand"}) {
            refused(word + " 3;", CANNOT_STAND, 0);
        }
    }

    private static void blanks() {
        Check.sentence(PART, "blanks (32) may stand ahead of all these, and at the end.");
        taken("   slab   7   8   1   ;   box   5   ;   ", 0, 7);
        taken("   slab   7   8   1   ;   box   5   ;   ", 4, 5);
        taken("slab7 8 1;box5;", 1, 8);
        taken("   ", 4, 4);
        taken("box 5;   ", 4, 5);
        takenRecipe("  roll  2  ;  turn  ;  ", 2);
        takenRecipe("roll2;turn;", 2);
        refused("b ox 5;", CANNOT_STAND, 0);
        refused("box 1 5;", CANNOT_STAND, 6);
        // Other signs that look like a blank are none.
        for (int sign : new int[] {0, 9, 10, 13, 31, 33, 160}) {
            refused((char) sign + "box 5;", CANNOT_STAND, 0);
            refused("box" + (char) sign + "5;", CANNOT_STAND, 3);
            refused("box 5" + (char) sign + ";", CANNOT_STAND, 5);
            refused("box 5;" + (char) sign, CANNOT_STAND, 6);
        }
    }

    // ---- faults

    private static void firstFromTheLeft() {
        Check.sentence(PART, "FAULTS, the first from the left, at its first byte:");
        refused("box 41;low 41;x", NO_SUCH_NUMBER, 4);
        refused("box 4;low 41;x", NO_SUCH_NUMBER, 10);
        refused("box 4;x;low 41;", CANNOT_STAND, 6);
        refused("slab 1 1 9;", NO_SUCH_NUMBER, 5);
        refused("slab 2 1 9;", NO_SUCH_NUMBER, 7);
        refused("slab 2 2 9;", NO_SUCH_NUMBER, 9);
        refused("room 24 41;", NO_SUCH_NUMBER, 5);
        refused("room 23 41;", NO_SUCH_NUMBER, 8);
        refused("slab 13", NO_SUCH_NUMBER, 5);
        refused("box   41", NO_SUCH_NUMBER, 6);
        refused("box 041;", NO_SUCH_NUMBER, 4);
        refusedRecipe("turn;roll 9;cut 0;", NO_SUCH_NUMBER, 10);
        refusedRecipe("turn;rolling 9;cut 0;", CANNOT_STAND, 5);
    }

    private static void cannotStand() {
        Check.sentence(PART, "1 what can't stand there");
        refused("4;", CANNOT_STAND, 0);
        refused("box low;", CANNOT_STAND, 4);
        refused("box 4 low 5;", CANNOT_STAND, 6);
        refused("box -4;", CANNOT_STAND, 4);
        refused("box +4;", CANNOT_STAND, 4);
        refused("box 4.5;", CANNOT_STAND, 5);
        refused("slab 6 x 0;", CANNOT_STAND, 7);
        refused("slab 6 4 ;", CANNOT_STAND, 9);
        refused("room x 4;", CANNOT_STAND, 5);
        refused("room 4 x;", CANNOT_STAND, 7);
        refused("  box 4;  low;", CANNOT_STAND, 13);
        refusedRecipe("2 roll;", CANNOT_STAND, 0);
        refusedRecipe("roll roll;", CANNOT_STAND, 5);
        refusedRecipe("book book;", CANNOT_STAND, 5);
        refusedRecipe("turn:", CANNOT_STAND, 4);
    }

    /** A text cut off behind each of its bytes: at the length, but for a word that is cut short. */
    private static void endsTooEarly() {
        Check.sentence(PART, "(at the length, if the text ends too early, and of a RECIPE of none);");
        cutOff(" slab 6 4 1 ; room 12 25 ;weight 1234; ", new int[] {1, 14, 26}, new int[] {5, 18, 32}, true);
        cutOff(" roll 3 ; book ;turn; ", new int[] {1, 10, 16}, new int[] {5, 14, 20}, false);
        refusedRecipe("", CANNOT_STAND, 0);
        refusedRecipe(" ", CANNOT_STAND, 1);
        refusedRecipe("    ", CANNOT_STAND, 4);
    }

    private static void cutOff(String text, int[] wordFrom, int[] wordTo, boolean kitchen) {
        for (int n = 0; n <= text.length(); n++) {
            String told = text.substring(0, n).trim();
            int place = n;
            for (int w = 0; w < wordFrom.length; w++) {
                place = n > wordFrom[w] && n < wordTo[w] ? wordFrom[w] : place;
            }
            boolean whole = told.isEmpty() ? kitchen : told.endsWith(";");
            // What stands behind on the tape is no part of the text.
            ButterLeaves x = new ButterLeaves();
            Check.feed(x, text);
            int good = kitchen ? 24 : 0;
            Check.due(n + " bytes of '" + text + "'", kitchen ? x.kitchen(n) : x.recipe(n), whole ? good : -9);
            Check.due("fault of " + n + " bytes of '" + text + "'", x.fault(), whole ? -1 : place);
            if (whole && !kitchen) {
                Check.due("steps of " + n + " bytes of '" + text + "'", x.steps(0, 0), told.split(";").length);
            }
        }
    }

    private static void noSuchNumber() {
        Check.sentence(PART, "2 a number that is none such;");
        refused("box 41;", NO_SUCH_NUMBER, 4);
        refused("box41;", NO_SUCH_NUMBER, 3);
        refused("box    41;", NO_SUCH_NUMBER, 7);
        refused("box 41", NO_SUCH_NUMBER, 4);
        refused("box 41 41;", NO_SUCH_NUMBER, 4);
        refusedRecipe("turn;tuck 10;", NO_SUCH_NUMBER, 10);
        refusedRecipe("turn;tuck 0;", NO_SUCH_NUMBER, 10);
        refusedRecipe("turn;tuck 00;", NO_SUCH_NUMBER, 10);
    }

    private static void tooMany() {
        Check.sentence(PART, "3 a CLAUSE or STEP too many (at its word);");
        String thirty = "low 2;".repeat(30);
        refused(thirty + "box 4;", TOO_MANY, 180);
        refused(thirty + "   box 4;", TOO_MANY, 183);
        refused(thirty + "box", TOO_MANY, 180);
        refused(thirty + "box 99;", TOO_MANY, 180);
        refused("low 2;".repeat(29) + "low 99;low 2;low 2;", NO_SUCH_NUMBER, 178);
        taken(thirty + "   ", 5, 2);
        String twenty = "turn;".repeat(20);
        refusedRecipe(twenty + "book;", TOO_MANY, 100);
        refusedRecipe(twenty + "   book;", TOO_MANY, 103);
        refusedRecipe(twenty + "roll 9;", TOO_MANY, 100);
        refusedRecipe(twenty + "roll", TOO_MANY, 100);
        refusedRecipe("turn;".repeat(19) + "roll 9;turn;", NO_SUCH_NUMBER, 100);
        takenRecipe(twenty + "   ", 20);
        Check.sentence(PART, "of one the least.");
        refused(thirty + "boxes 4;", CANNOT_STAND, 180);
        refused(thirty + ";", CANNOT_STAND, 180);
        refused(thirty + " 4;", CANNOT_STAND, 181);
        refused(thirty + "turn;", CANNOT_STAND, 180);
        refusedRecipe(twenty + "turns;", CANNOT_STAND, 100);
        refusedRecipe(twenty + ";", CANNOT_STAND, 100);
        refusedRecipe(twenty + "box 4;", CANNOT_STAND, 100);
    }

    /** Each byte there is, at each place of two texts, held against the model. */
    private static void allBytes() {
        eachByte("slab 6 4 1;box 12 ;", true);
        eachByte("roll 3;turn ;cut 1;", false);
    }

    private static void eachByte(String text, boolean kitchen) {
        for (int place = 0; place < text.length(); place++) {
            for (int sign = 0; sign < 256; sign++) {
                String changed = text.substring(0, place) + (char) sign + text.substring(place + 1);
                ButterLeaves x = new ButterLeaves();
                Model model = new Model();
                model.feed(Check.numbers(Check.bytes(changed), 0));
                int n = changed.length();
                int want = kitchen ? model.kitchen(n) : model.recipe(n);
                Check.due("'" + changed + "'", kitchen ? Check.kitchen(x, changed) : Check.recipe(x, changed), want);
                Check.due("fault of '" + changed + "'", x.fault(), model.faultAt);
            }
        }
    }
}
