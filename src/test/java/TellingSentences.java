/** Promises 1 to 7, 22 and 29 to 31, sentence by sentence: what is told, and what goes back. */
final class TellingSentences {
    private TellingSentences() {
    }

    static void all() {
        newObject();
        feed();
        fullTape();
        kitchen();
        kitchenForgets();
        kitchenFault();
        kitchenOutside();
        recipe();
        fourRecipes();
        fault();
        told();
        room();
        begin();
        image();
        restore();
        count();
    }

    private static final int[] FIRST_TOLD = {6, 4, 0, 1000, 4, 8, 18, 10, 72, 0};

    private static void toldAre(ButterLeaves x, String when, int... due) {
        for (int what = 0; what < due.length; what++) {
            Check.due(when + ": told(" + what + ")", x.told(what), due[what]);
        }
    }

    private static void newObject() {
        Check.sentence("Promise 1", "A KITCHEN without CLAUSES; no RECIPES.");
        ButterLeaves x = new ButterLeaves();
        toldAre(x, "new", FIRST_TOLD);
        for (int hour = 0; hour < 24; hour++) {
            Check.due("new: room(" + hour + ")", x.room(hour), 20);
        }
        Check.due("new: fault", x.fault(), -1);
        Check.due("new: images", x.count(0), 0);
        Check.due("new: bytes", x.count(1), 0);
        Check.due("new: bench", x.bench(0), 0);
        Check.due("new: blocks", x.bench(1), 0);
        Check.due("new: idle", x.bench(2), 0);
        Check.due("new: no turn", x.turnOf(0), -1);
        Check.due("new: nothing to restore", x.restore(), -1);
        Check.due("new: a way", x.soonest(3, 0), 6);
        Check.dueMissing("new: no recipe", () -> x.steps(0, 0));
        Check.due("NONE", ButterLeaves.NONE, -1);
        // One object knows nothing of another.
        Check.with("slab 3 3 0;box 9;", "turn;");
        toldAre(new ButterLeaves(), "another", FIRST_TOLD);
    }

    private static void feed() {
        Check.sentence("Promise 2", "Twenty bytes come on the TAPE, of each number the highest first: how many there are;");
        ButterLeaves x = new ButterLeaves();
        // t u r n ; and b o o k ; by their numbers: 116 117 114 110 59, 98 111 111 107 59.
        int a = 116 << 24 | 117 << 16 | 114 << 8 | 110;
        int b = 59 << 24 | 98 << 16 | 111 << 8 | 111;
        int c = 107 << 24 | 59 << 16 | 32 << 8 | 32;
        int d = 32 << 24 | 32 << 16 | 99 << 8 | 117;
        int e = 116 << 24 | 32 << 16 | 55 << 8 | 59;
        Check.due("20", x.feed(a, b, c, d, e), 20);
        Check.due("bytes", x.count(1), 20);
        Check.due("40", x.feed(a, b, c, d, e), 40);
        Check.due("bytes of both", x.count(1), 40);
        Check.due("turn; book; cut 7; twice", x.recipe(40), 0);
        int[] kinds = {5, 2, 4, 5, 2, 4};
        for (int k = 0; k < kinds.length; k++) {
            Check.due("kind of step " + k, x.step(0, k, 0), kinds[k]);
        }
        Check.due("the last number's last bytes", x.step(0, 5, 1), 7);
        // Bytes of 128 and more are such, not less than 0: none of them is a blank, a letter or a digit.
        for (int high : new int[] {128, 160, 176, 187, 225, 255}) {
            ButterLeaves y = new ButterLeaves();
            y.feed(high << 24 | 0x626f78, 0x20353b20, 0, 0, 0);
            Check.due("byte " + high, y.kitchen(8), -9);
            Check.due("its place", y.fault(), 0);
        }
        Check.due("the least number", x.feed(Integer.MIN_VALUE, 0, 0, 0, 0), 20);
        Check.due("is 128, 0, 0, 0", x.kitchen(4), -9);
    }

    private static void fullTape() {
        Check.sentence("Promise 2", "NONE, doing nothing, if there would be more than 400.");
        ButterLeaves x = new ButterLeaves();
        int blanks = 0x20202020;
        for (int i = 1; i <= 19; i++) {
            Check.due("feed " + i, x.feed(blanks, blanks, blanks, blanks, blanks), 20 * i);
        }
        // " box 7 ;" at the very end.
        Check.due("just 400", x.feed(blanks, blanks, blanks, 0x20626f78, 0x2037203b), 400);
        Check.due("one more", x.feed(blanks, blanks, blanks, blanks, blanks), -1);
        Check.due("nothing done: bytes", x.count(1), 400);
        Check.due("and one more", x.feed(1, 2, 3, 4, 5), -1);
        Check.due("nothing done: the text", x.kitchen(400), 24);
        Check.due("nothing done: box", x.told(4), 7);
        Check.due("then there is room again", x.feed(blanks, blanks, blanks, blanks, blanks), 20);
    }

    private static void kitchen() {
        Check.sentence("Promise 3", "The first n bytes of the TAPE (empty then) are the KITCHEN");
        ButterLeaves x = new ButterLeaves();
        Check.feed(x, "box 7;low 9;high 1;");
        Check.due("the first 6 of 20", x.kitchen(6), 24);
        Check.due("box", x.told(4), 7);
        Check.due("what is behind is not read", x.told(5), 8);
        Check.due("the tape is empty then", x.count(1), 0);
        Check.dueIllegal("nothing is left of it", () -> x.kitchen(1));
        Check.due("0 bytes of none", x.kitchen(0), 24);
        Check.due("are a kitchen without clauses", x.told(4), 4);
        Check.feed(x, "box 7;");
        Check.due("0 bytes of 20", x.kitchen(0), 24);
        Check.due("empty the tape too", x.count(1), 0);
        Check.due("box as without", x.told(4), 4);
        Check.sentence("Promise 3", "how many first CELLS;");
        for (int across = 2; across <= 12; across++) {
            for (int down = 2; down <= 12; down++) {
                Check.due(across + " by " + down, Check.kitchen(x, "slab " + across + " " + down + " 0;"), across * down);
            }
        }
    }

    private static void kitchenForgets() {
        Check.sentence("Promise 3", "(RECIPES stay; what begin() told goes, IMAGES too):");
        ButterLeaves x = Check.with("start 2;", "roll 2;", "fold 2;", "turn;", "book;");
        x.begin(9);
        x.image();
        x.image();
        Check.due("in the former kitchen", x.behind(0, 1, 0), 12);
        Check.due("stuck in the former kitchen", x.wrong(3, 2), 0);
        Check.due("the former latest", x.latest(1), 287);
        Check.due("told anew", Check.kitchen(x, "slab 8 2 0;start 3;box 39;high 3;"), 16);
        Check.due("recipes stay", x.told(9), 4);
        Check.due("as they are", x.step(0, 0, 1), 2);
        Check.due("and go on in the new kitchen", x.behind(0, 1, 0), 16);
        Check.due("warmth too", x.behind(0, 0, 3), 390);
        Check.due("no more stuck", x.wrong(3, 2), -1);
        Check.due("the new latest", x.latest(1), -1);
        Check.due("what begin() told goes", x.told(8), 36);
        Check.due("images go", x.count(0), 0);
        Check.due("there is none to restore", x.restore(), -1);
        Check.due("a new one is the first", x.image(), 1);
        x.begin(9);
        Check.kitchen(x, "");
        Check.due("what begin() told goes with an empty text too", x.told(8), 72);
        Check.due("and the image", x.count(0), 0);
    }

    private static void kitchenFault() {
        Check.sentence("Promise 3", "or the FAULT less 10 (all stays).");
        ButterLeaves x = Check.with("slab 5 7 2;weight 33;room 4 9;box 3;low 2;high 20;rub 8;start 5;", "roll 2;");
        x.begin(17);
        x.image();
        int[] due = {5, 7, 2, 33, 3, 2, 20, 8, 17, 1};
        String[] texts = {"slab 4 4 1;weight 44;room 4 8;box 5;low 6;high 7;rub 9;start 1;x", "box 5;low 41;",
            "low 6;".repeat(31)};
        for (int i = 0; i < texts.length; i++) {
            Check.due(texts[i], Check.kitchen(x, texts[i]), i - 9);
            toldAre(x, "behind " + texts[i], due);
            Check.due("the room stays", x.room(4), 9);
            Check.due("images stay", x.count(0), 1);
            Check.due("the slab stays", x.behind(0, 1, 0), 10);
            Check.due("but the tape is empty", x.count(1), 0);
        }
        Check.kitchen(x, "box 6;");
        toldAre(x, "nothing of those refused", 6, 4, 0, 1000, 6, 8, 18, 10, 72, 1);
        Check.due("nor of their room", x.room(4), 20);
    }

    private static void kitchenOutside() {
        Check.sentence("Promise 3", "IllegalArgumentException: n is not 0 to the TAPE's bytes (it stays).");
        ButterLeaves x = new ButterLeaves();
        Check.recipe(x, "x");
        for (int n : new int[] {-1, 1, 20, Integer.MIN_VALUE, Integer.MAX_VALUE}) {
            Check.dueIllegal("kitchen(" + n + ") of none", () -> x.kitchen(n));
            Check.dueIllegal("recipe(" + n + ") of none", () -> x.recipe(n));
        }
        Check.feed(x, "box 7;");
        x.image();
        for (int n : new int[] {-1, 21, 400, Integer.MIN_VALUE, Integer.MAX_VALUE}) {
            Check.dueIllegal("kitchen(" + n + ") of 20", () -> x.kitchen(n));
            Check.dueIllegal("recipe(" + n + ") of 20", () -> x.recipe(n));
        }
        Check.due("the tape stays", x.count(1), 20);
        Check.due("so does the fault", x.fault(), 0);
        Check.due("so do images", x.count(0), 1);
        Check.due("it is the same", x.kitchen(6), 24);
        Check.due("box", x.told(4), 7);
        Check.feed(x, "box 7;              ");
        Check.due("all 20 bytes may be the text", x.kitchen(20), 24);
    }

    private static void recipe() {
        Check.sentence("Promise 4", "Likewise a RECIPE: its number, from 0 on;");
        ButterLeaves x = new ButterLeaves();
        Check.feed(x, "turn;book;");
        Check.due("the first 5 of 20", x.recipe(5), 0);
        Check.due("what is behind is not read", x.steps(0, 0), 1);
        Check.due("the tape is empty then", x.count(1), 0);
        Check.due("the second", Check.recipe(x, "book;book;"), 1);
        Check.due("the third", Check.recipe(x, "cut 1;"), 2);
        Check.due("the fourth", Check.recipe(x, "roll 2;"), 3);
        for (int r = 0; r < 4; r++) {
            Check.due("kind of recipe " + r, x.step(r, 0, 0), new int[] {5, 2, 4, 0}[r]);
        }
        Check.sentence("Promise 4", "or the FAULT less 10;");
        ButterLeaves y = Check.with("", "turn;");
        y.image();
        y.begin(5);
        String[] texts = {"roll 2;turn", "roll 2;fold 9;", "roll 2;".repeat(21)};
        int[] places = {11, 12, 140};
        for (int i = 0; i < texts.length; i++) {
            Check.due(texts[i], Check.recipe(y, texts[i]), i - 9);
            Check.due("place of " + texts[i], y.fault(), places[i]);
            Check.due("recipes stay", y.told(9), 1);
            Check.due("images stay", y.count(0), 1);
            Check.due("begin() stays", y.told(8), 5);
            Check.due("the tape is empty", y.count(1), 0);
            Check.dueMissing("no second one", () -> y.steps(1, 0));
        }
        Check.due("the next is still the second", Check.recipe(y, "book;"), 1);
        Check.due("with its own steps alone", y.steps(1, 0), 1);
        Check.due("a recipe leaves images", y.count(0), 1);
        Check.due("a recipe leaves begin()", y.told(8), 5);
    }

    private static void fourRecipes() {
        Check.sentence("Promise 4", "-1: there are 4.");
        ButterLeaves x = Check.with("", "turn;", "book;", "cut 1;", "roll 2;");
        Check.due("a fifth", Check.recipe(x, "fold 2;"), -1);
        Check.due("none told", x.told(9), 4);
        Check.due("a fifth of none", x.recipe(0), -1);
        Check.due("a fifth with a fault", Check.recipe(x, "fold 9;"), -1);
        for (int r = 0; r < 4; r++) {
            Check.due("kind of recipe " + r, x.step(r, 0, 0), new int[] {5, 2, 4, 0}[r]);
            Check.due("steps of recipe " + r, x.steps(r, 0), 1);
        }
        Check.dueMissing("no fifth", () -> x.steps(4, 0));
        ButterLeaves y = Check.with("", "turn;", "book;", "cut 1;");
        y.image();
        Check.recipe(y, "roll 2;");
        Check.due("a fifth", Check.recipe(y, "fold 2;"), -1);
        y.restore();
        Check.due("a fourth again", Check.recipe(y, "fold 2;"), 3);
    }

    private static void fault() {
        Check.sentence("Promise 5", "The place of the FAULT of the latest text;");
        ButterLeaves x = new ButterLeaves();
        Check.recipe(x, "turn;bok;");
        Check.due("of a recipe", x.fault(), 5);
        Check.due("asked again", x.fault(), 5);
        Check.kitchen(x, "box 4;low 41;");
        Check.due("of a kitchen", x.fault(), 10);
        Check.feed(x, "box 4;");
        x.image();
        x.begin(3);
        x.restore();
        Check.due("no text since", x.fault(), 10);
        Check.recipe(x, "");
        Check.due("of nothing", x.fault(), 0);
        Check.sentence("Promise 5", "NONE without.");
        Check.due("new", new ButterLeaves().fault(), -1);
        Check.kitchen(x, "box 4;");
        Check.due("a kitchen without", x.fault(), -1);
        Check.kitchen(x, "bok 4;");
        Check.due("one with", x.fault(), 0);
        Check.recipe(x, "turn;");
        Check.due("a recipe without", x.fault(), -1);
    }

    private static void told() {
        Check.sentence("Promise 6", "0 X, 1 Y, 2 R, 3 G, 4 box, 5 low, 6 high, 7 rub,");
        ButterLeaves x = Check.with("slab 9 11 3;weight 1234;box 12;low 23;high 34;rub 45;start 7;", "turn;", "turn;");
        toldAre(x, "all told", 9, 11, 3, 1234, 12, 23, 34, 45, 84, 2);
        Check.sentence("Promise 6", "8 the UNIT of the day (12 an hour, from midnight on) with which all begins: 12 times "
                + "start at first,");
        x.begin(287);
        Check.due("behind begin(287)", x.told(8), 287);
        Check.due("start 0", Check.with("start 0;").told(8), 0);
        Check.due("start 1", Check.with("start 1;").told(8), 12);
        Check.due("start 23", Check.with("start 23;").told(8), 276);
        Check.sentence("Promise 6", "9 RECIPES.");
        ButterLeaves y = new ButterLeaves();
        for (int r = 0; r <= 4; r++) {
            Check.due("recipes", y.told(9), r);
            Check.recipe(y, "turn;");
        }
        Check.sentence("Promise 6", "IllegalArgumentException: another what (so below).");
        for (int what : new int[] {-1, 10, 11, Integer.MIN_VALUE, Integer.MAX_VALUE}) {
            Check.dueIllegal("told(" + what + ")", () -> x.told(what));
        }
    }

    private static void room() {
        Check.sentence("Promise 7", "Degrees of the room in an hour (0 to 23).");
        ButterLeaves x = Check.with("room 0 3;room 23 40;room 12 0;");
        Check.due("hour 0", x.room(0), 3);
        Check.due("hour 11", x.room(11), 3);
        Check.due("hour 12", x.room(12), 0);
        Check.due("hour 23", x.room(23), 40);
        for (int hour : new int[] {-1, 24, 25, Integer.MIN_VALUE, Integer.MAX_VALUE}) {
            Check.dueIllegal("room(" + hour + ")", () -> x.room(hour));
        }
    }

    private static void begin() {
        Check.sentence("Promise 22", "All begins with another UNIT of the day (0 to 287): what it was.");
        ButterLeaves x = Check.with("room 0 0;room 12 40;high 5;low 0;", "stand 1;");
        Check.due("it was hour 6", x.begin(0), 72);
        Check.due("it was 0", x.begin(287), 0);
        Check.due("it was 287", x.begin(287), 287);
        Check.due("told", x.told(8), 287);
        for (int unit : new int[] {-1, 288, Integer.MIN_VALUE, Integer.MAX_VALUE}) {
            Check.dueIllegal("begin(" + unit + ")", () -> x.begin(unit));
        }
        Check.due("it stays", x.told(8), 287);
        Check.due("warm, at 23:55", x.behind(0, 1, 3), 76);
        Check.due("it runs", x.wrong(0, 1), 0);
        Check.due("a way behind one unit in the box", x.soonest(2, 0), 4);
        x.begin(0);
        Check.due("cold, at midnight", x.behind(0, 1, 3), 36);
        Check.due("it does not run", x.wrong(0, 1), -1);
        Check.due("a way", x.soonest(2, 0), 3);
        Check.due("units gone are counted from there", x.behind(0, 1, 2), 1);
        x.begin(143);
        Check.due("still cold, at 11:55", x.behind(0, 1, 3), 36);
        Check.due("no way for a roll over noon", x.pass(2, 0), -1);
        x.begin(144);
        Check.due("warm, at noon", x.behind(0, 1, 3), 76);
    }

    private static void image() {
        Check.sentence("Promise 29", "An IMAGE of how many RECIPES there are, and with what UNIT all begins: how many there "
                + "are;");
        ButterLeaves x = Check.with("", "turn;");
        Check.due("the first", x.image(), 1);
        Check.recipe(x, "book;");
        x.begin(1);
        Check.due("the second", x.image(), 2);
        Check.recipe(x, "cut 1;");
        x.begin(287);
        Check.due("the third", x.image(), 3);
        Check.sentence("Promise 29", "-1: there are 3.");
        Check.recipe(x, "roll 2;");
        x.begin(5);
        Check.due("a fourth", x.image(), -1);
        Check.due("nothing done: images", x.count(0), 3);
        Check.due("nothing done: begin", x.told(8), 5);
        Check.due("nothing done: recipes", x.told(9), 4);
        x.restore();
        Check.due("the third was as it was", x.told(8), 287);
        Check.due("its recipes too", x.told(9), 3);
        Check.due("a third again", x.image(), 3);
    }

    private static void restore() {
        Check.sentence("Promise 30", "All is as in the latest IMAGE (later RECIPES go), which is gone: how many are left;");
        ButterLeaves x = new ButterLeaves();
        x.image();
        Check.recipe(x, "turn;");
        x.begin(0);
        x.image();
        Check.recipe(x, "stand 3;");
        Check.recipe(x, "stand 4;");
        x.begin(287);
        x.image();
        Check.due("bench of all", x.bench(0), 7);
        Check.due("2 left", x.restore(), 2);
        Check.due("all three recipes", x.told(9), 3);
        Check.due("begin", x.told(8), 287);
        Check.due("1 left", x.restore(), 1);
        Check.due("one recipe", x.told(9), 1);
        Check.due("begin of it", x.told(8), 0);
        Check.due("bench of it", x.bench(0), 0);
        Check.dueMissing("later ones go", () -> x.steps(1, 0));
        Check.due("the first stays", x.step(0, 0, 0), 5);
        Check.due("another second", Check.recipe(x, "cut 1;"), 1);
        Check.due("is another", x.step(1, 0, 0), 4);
        Check.due("bench with it", x.bench(0), 1);
        Check.due("none left", x.restore(), 0);
        Check.due("no recipes", x.told(9), 0);
        Check.due("begin at first", x.told(8), 72);
        Check.sentence("Promise 30", "-1: there is none.");
        Check.recipe(x, "turn;");
        x.begin(9);
        Check.due("none", x.restore(), -1);
        Check.due("nothing done: recipes", x.told(9), 1);
        Check.due("nothing done: begin", x.told(8), 9);
        Check.due("none in a new one", new ButterLeaves().restore(), -1);
        restoreKeepsTheRest();
    }

    /** An image is of two numbers alone: tape and fault are not in it. */
    private static void restoreKeepsTheRest() {
        Check.sentence("Promise 30", "All is as in the latest IMAGE (later RECIPES go), which is gone: how many are left;");
        ButterLeaves x = new ButterLeaves();
        x.image();
        Check.recipe(x, "turn;x");
        Check.feed(x, "box 9;");
        x.restore();
        Check.due("the tape stays", x.count(1), 20);
        Check.due("the fault stays", x.fault(), 5);
        Check.due("its text stays", x.kitchen(6), 24);
        Check.due("box", x.told(4), 9);
        ButterLeaves y = Check.with("room 0 0;room 12 20;", "stand 1;");
        y.image();
        Check.due("cold", y.behind(0, 1, 3), 36);
        Check.due("no way", y.soonest(2, 0), -1);
        y.begin(144);
        Check.due("warm", y.behind(0, 1, 3), 56);
        Check.due("a way", y.soonest(2, 0), 6);
        y.restore();
        Check.due("cold again", y.behind(0, 1, 3), 36);
        Check.due("no way again", y.soonest(2, 0), -1);
    }

    private static void count() {
        Check.sentence("Promise 31", "0 IMAGES, 1 bytes of the TAPE;");
        ButterLeaves x = new ButterLeaves();
        for (int i = 0; i <= 3; i++) {
            Check.due("images", x.count(0), i);
            x.image();
        }
        Check.due("images at most", x.count(0), 3);
        for (int i = 0; i <= 20; i++) {
            Check.due("bytes", x.count(1), 20 * i);
            x.feed(1, 2, 3, 4, 5);
        }
        Check.due("bytes at most", x.count(1), 400);
        Check.sentence("Promise 31", "NONE for others.");
        for (int what : new int[] {-1, 2, 3, Integer.MIN_VALUE, Integer.MAX_VALUE}) {
            Check.due("count(" + what + ")", x.count(what), -1);
        }
    }
}
