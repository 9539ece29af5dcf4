/** Promises 1 to 7: a new object, the tape, both texts and their faults, what is told, the room. */
public final class TextsTest {
    public static void main(String[] args) {
        newObject();
        feed();
        tapeOfTexts();
        kitchenFaults();
        recipeFaults();
        tooMany();
        kitchenClauses();
        kitchenForgets();
        fourRecipes();
        faultOfTheLatest();
        room();
        Check.end();
    }

    private static void newObject() {
        ButterLeaves x = new ButterLeaves();
        int[] told = {6, 4, 0, 1000, 4, 8, 18, 10, 72, 0};
        for (int what = 0; what < told.length; what++) {
            Check.due("new: told(" + what + ")", x.told(what), told[what]);
        }
        for (int hour = 0; hour < 24; hour++) {
            Check.due("new: room(" + hour + ")", x.room(hour), 20);
        }
        Check.due("new: fault", x.fault(), ButterLeaves.NONE);
        Check.due("new: images", x.count(0), 0);
        Check.due("new: bytes", x.count(1), 0);
        Check.dueIllegal("told(-1)", () -> x.told(-1));
        Check.dueIllegal("told(10)", () -> x.told(10));
        Check.dueIllegal("told(least)", () -> x.told(Integer.MIN_VALUE));
        Check.dueMissing("new: thin", () -> x.thin(0, 0));
    }

    private static void feed() {
        ButterLeaves x = new ButterLeaves();
        for (int i = 1; i <= 20; i++) {
            Check.due("feed " + i, x.feed(0, 0, 0, 0, 0), 20 * i);
        }
        Check.due("feed beyond 400", x.feed(1, 2, 3, 4, 5), ButterLeaves.NONE);
        Check.due("bytes stay", x.count(1), 400);
        // A byte of 0 can't stand at the first place, and all 400 may be one text.
        Check.due("kitchen of 400 zeros", x.kitchen(400), -9);
        Check.due("its fault", x.fault(), 0);
        Check.due("the tape is empty then", x.count(1), 0);
        // "turn" is 1953854062: the highest byte comes first; 59 is the semicolon.
        Check.due("feed by hand", x.feed(1953854062, 59 << 24, 0, 0, 0), 20);
        Check.due("recipe of it", x.recipe(5), 0);
        Check.due("its kind", x.step(0, 0, 0), 5);
        Check.due("high bytes", x.feed(-1, -1, -1, -1, -1), 20);
        Check.due("can't stand", x.kitchen(1), -9);
    }

    private static void tapeOfTexts() {
        ButterLeaves x = new ButterLeaves();
        Check.feed(x, "box 7;");
        Check.dueIllegal("kitchen(-1)", () -> x.kitchen(-1));
        Check.dueIllegal("kitchen(21)", () -> x.kitchen(21));
        Check.dueIllegal("recipe(-1)", () -> x.recipe(-1));
        Check.dueIllegal("recipe(21)", () -> x.recipe(21));
        Check.due("the tape stays", x.count(1), 20);
        Check.due("the text is still there", x.kitchen(6), 24);
        Check.due("box", x.told(4), 7);
        Check.due("empty then", x.count(1), 0);
        Check.dueIllegal("nothing is left", () -> x.kitchen(1));
        Check.feed(x, "box 8;");
        Check.due("a part is a text too", x.kitchen(5), -9);
        Check.due("that ends too early", x.fault(), 5);
        Check.due("and leaves nothing on the tape", x.count(1), 0);
        Check.due("all stays", x.told(4), 7);
        Check.due("an empty kitchen", x.kitchen(0), 24);
        Check.due("is as at first", x.told(4), 4);
    }

    private static void kitchenFault(String text, int kind, int place) {
        ButterLeaves x = Check.with("slab 5 5 1;box 9;");
        Check.due("kitchen '" + text + "'", Check.kitchen(x, text), kind - 10);
        Check.due("fault of '" + text + "'", x.fault(), place);
        Check.due("slab stays behind '" + text + "'", x.told(0), 5);
        Check.due("box stays behind '" + text + "'", x.told(4), 9);
    }

    private static void kitchenFaults() {
        kitchenFault("slab 1 4 0;", 2, 5);
        kitchenFault("slab 13 4 0;", 2, 5);
        kitchenFault("slab 6 1 0;", 2, 7);
        kitchenFault("slab 12 13 9;", 2, 8);
        kitchenFault("slab 9 9 4;", 2, 9);
        kitchenFault("slab 6 4 2;", 2, 9);
        kitchenFault("slab 4 6 2;", 2, 9);
        kitchenFault("slab 6 4;", 1, 8);
        kitchenFault("slab 6 4", 1, 8);
        kitchenFault("slab 6 4 0 1;", 1, 11);
        kitchenFault("slab;", 1, 4);
        kitchenFault("weight 0;", 2, 7);
        kitchenFault("weight 10000;", 2, 7);
        kitchenFault("weight 99999999999999999999;", 2, 7);
        kitchenFault("weight 4294967297;", 2, 7);
        kitchenFault("room 24 5;", 2, 5);
        kitchenFault("room 5 41;", 2, 7);
        kitchenFault("room 5;", 1, 6);
        kitchenFault("box 41;", 2, 4);
        kitchenFault("low 41;", 2, 4);
        kitchenFault("high 41;", 2, 5);
        kitchenFault("rub 100;", 2, 4);
        kitchenFault("start 24;", 2, 6);
        kitchenFault("boxes 4;", 1, 0);
        kitchenFault("bo x 4;", 1, 0);
        kitchenFault("Box 4;", 1, 0);
        kitchenFault(";", 1, 0);
        kitchenFault("4;", 1, 0);
        kitchenFault("box 4;;", 1, 6);
        kitchenFault("box 4", 1, 5);
        kitchenFault("box 4  ", 1, 7);
        kitchenFault("box   ", 1, 6);
        kitchenFault("box -4;", 1, 4);
        kitchenFault("box 4x;", 1, 5);
        kitchenFault("box 4 4;", 1, 6);
        kitchenFault("box\t4;", 1, 3);
        kitchenFault("  roll 2;", 1, 2);
        kitchenFault("box 99 x", 2, 4);
        kitchenFault("x box 99;", 1, 0);
        kitchenFault("box " + (char) 180 + ";", 1, 4);
    }

    private static void recipeFault(String text, int kind, int place) {
        ButterLeaves x = Check.with("", "turn;");
        Check.due("recipe '" + text + "'", Check.recipe(x, text), kind - 10);
        Check.due("fault of '" + text + "'", x.fault(), place);
        Check.due("recipes behind '" + text + "'", x.told(9), 1);
    }

    private static void recipeFaults() {
        recipeFault("", 1, 0);
        recipeFault("   ", 1, 3);
        recipeFault("roll 1;", 2, 5);
        recipeFault("roll 5;", 2, 5);
        recipeFault("roll 5", 2, 5);
        recipeFault("roll;", 1, 4);
        recipeFault("roll", 1, 4);
        recipeFault("rolls 2;", 1, 0);
        recipeFault("fold 1;", 2, 5);
        recipeFault("fold 5;", 2, 5);
        recipeFault("book 4;", 1, 5);
        recipeFault("book", 1, 4);
        recipeFault("turn 1;", 1, 5);
        recipeFault("tuck 0;", 2, 5);
        recipeFault("tuck 10;", 2, 5);
        recipeFault("cut 0;", 2, 4);
        recipeFault("cut 10;", 2, 4);
        recipeFault("rest 0;", 2, 5);
        recipeFault("rest 37;", 2, 5);
        recipeFault("stand 0;", 2, 6);
        recipeFault("stand 37;", 2, 6);
        recipeFault("turn;box 4;", 1, 5);
        recipeFault("turn; ;", 1, 6);
        recipeFault("turn,", 1, 4);
    }

    private static void tooMany() {
        ButterLeaves x = new ButterLeaves();
        Check.due("30 clauses", Check.kitchen(x, "low 1;".repeat(30)), 24);
        Check.due("31 clauses", Check.kitchen(x, "low 2;".repeat(31)), -7);
        Check.due("fault at the word", x.fault(), 180);
        Check.due("31 with blanks", Check.kitchen(x, "low 2;".repeat(30) + "  low 2;"), -7);
        Check.due("fault behind the blanks", x.fault(), 182);
        Check.due("an unknown 31st word", Check.kitchen(x, "low 2;".repeat(30) + "lows 2;"), -9);
        Check.due("a wrong number in the 31st", Check.kitchen(x, "low 2;".repeat(30) + "low 99;"), -7);
        Check.due("30 and blanks", Check.kitchen(x, "low 2;".repeat(30) + "  "), 24);
        Check.due("20 steps", Check.recipe(x, "turn;".repeat(20)), 0);
        Check.due("no fault", x.fault(), -1);
        Check.due("21 steps", Check.recipe(x, "turn;".repeat(21)), -7);
        Check.due("fault at its word", x.fault(), 100);
        Check.due("an unknown 21st word", Check.recipe(x, "turn;".repeat(20) + "turns;"), -9);
        Check.due("no word", Check.recipe(x, "turn;".repeat(20) + ";"), -9);
        Check.due("20 and blanks", Check.recipe(x, "turn;".repeat(20) + " "), 1);
    }

    private static void kitchenClauses() {
        ButterLeaves x = Check.with("slab 12 2 0;weight 9999;box 0;low 40;high 0;rub 0;start 0;");
        int[] told = {12, 2, 0, 9999, 0, 40, 0, 0, 0, 0};
        for (int what = 0; what < told.length; what++) {
            Check.due("told(" + what + ")", x.told(what), told[what]);
        }
        ButterLeaves y = Check.with("  slab 7 9 3 ;weight1;box 40;box 0003;rub 99;start 23;slab 8 7 3;  ");
        int[] later = {8, 7, 3, 1, 3, 8, 18, 99, 276, 0};
        for (int what = 0; what < later.length; what++) {
            Check.due("later told(" + what + ")", y.told(what), later[what]);
        }
        Check.due("first cells", Check.kitchen(y, "slab 12 12 3;"), 144);
        Check.due("what is not told again goes", y.told(7), 10);
        Check.due("a long number", Check.kitchen(y, "box " + "0".repeat(300) + "5;"), 24);
        Check.due("is 5", y.told(4), 5);
    }

    private static void kitchenForgets() {
        ButterLeaves x = Check.with("", "roll 2;");
        x.begin(9);
        x.image();
        Check.due("a fault keeps images", Check.kitchen(x, "slab"), -9);
        Check.due("images", x.count(0), 1);
        Check.due("begin", x.told(8), 9);
        Check.due("recipes stay", Check.kitchen(x, "start 3;slab 4 4 0;"), 16);
        Check.due("they are told", x.told(9), 1);
        Check.due("and run in the new kitchen", x.behind(0, 1, 0), 8);
        Check.due("what begin told goes", x.told(8), 36);
        Check.due("images go", x.count(0), 0);
        Check.due("none to restore", x.restore(), -1);
    }

    private static void fourRecipes() {
        ButterLeaves x = Check.with("", "turn;", "roll 2;", "book;");
        Check.due("the fourth", Check.recipe(x, "fold 2;"), 3);
        Check.due("the fifth", Check.recipe(x, "turn;"), -1);
        Check.due("takes its bytes", x.count(1), 0);
        Check.due("is no fault", x.fault(), -1);
        Check.dueIllegal("n goes first", () -> x.recipe(1));
        Check.due("recipes", x.told(9), 4);
        Check.due("the fourth stays", x.step(3, 0, 0), 1);
    }

    private static void faultOfTheLatest() {
        ButterLeaves x = new ButterLeaves();
        Check.recipe(x, "turn;bok;");
        Check.due("fault", x.fault(), 5);
        Check.dueIllegal("no text", () -> x.kitchen(77));
        Check.due("no other text since", x.fault(), 5);
        Check.kitchen(x, "box 4;");
        Check.due("none", x.fault(), -1);
    }

    private static void room() {
        ButterLeaves x = Check.with("room 9 25;room 3 10;room 3 11;room 20 0;");
        int[] due = {0, 0, 0, 11, 11, 11, 11, 11, 11, 25, 25, 25, 25, 25, 25, 25, 25, 25, 25, 25, 0, 0, 0, 0};
        for (int hour = 0; hour < 24; hour++) {
            Check.due("room(" + hour + ")", x.room(hour), due[hour]);
        }
        Check.dueIllegal("room(-1)", () -> x.room(-1));
        Check.dueIllegal("room(24)", () -> x.room(24));
        ButterLeaves y = Check.with("room 23 40;");
        Check.due("one for all", y.room(0), 40);
        Check.due("one for all", y.room(22), 40);
    }
}
