import java.util.NoSuchElementException;

/** Kitchens, recipes and the slabs of dough and butter that come of them. */
public final class ButterLeaves {
    public static final int NONE = -1;

    private static final int MOST_RECIPES = 4;
    private static final int MOST_IMAGES = 3;
    private static final int MOST_CLAUSES = 30;
    private static final int MOST_STEPS = 20;
    private static final int MOST_LEAVES = 1024;
    private static final int LONGEST = 48;
    private static final int HOUR_UNITS = 12;
    private static final int DAY_UNITS = 288;

    private static final int ACROSS = 0;
    private static final int DOWN = 1;
    private static final int RIM = 2;
    private static final int GRAMS = 3;
    private static final int BOX = 4;
    private static final int LOW = 5;
    private static final int HIGH = 6;
    private static final int RUB = 7;
    private static final int START = 8;
    private static final int ROOM = 9;

    private static final int ROLL = 0;
    private static final int FOLD = 1;
    private static final int BOOK = 2;
    private static final int TUCK = 3;
    private static final int CUT = 4;
    private static final int TURN = 5;
    private static final int REST = 6;
    private static final int STAND = 7;

    private static final int CANNOT_STAND = 1;
    private static final int NO_SUCH_NUMBER = 2;
    private static final int TOO_MANY = 3;

    private final Tape tape = new Tape();
    private final Recipe[] recipes = new Recipe[MOST_RECIPES];
    private final Run[] runs = new Run[MOST_RECIPES];
    private final Butter butter = new Butter();
    private final Unlike unlike = new Unlike();
    private final Bench orders = new Bench();
    private final int[] imageRecipes = new int[MOST_IMAGES];
    private final int[] imageBegins = new int[MOST_IMAGES];
    private Kitchen house = new Kitchen();
    private Kitchen spareHouse = new Kitchen();
    private Passes ways;
    private int recipeCount;
    private int imageCount;
    private int firstUnit;

    public ButterLeaves() {
        firstUnit = house.firstUnit();
    }

    public int feed(int a, int b, int c, int d, int e) {
        return tape.append(a, b, c, d, e);
    }

    public int kitchen(int n) throws IllegalArgumentException {
        if (!tape.open(n)) {
            throw new IllegalArgumentException("the tape has not so many bytes");
        }
        if (!tape.readKitchen(spareHouse)) {
            return tape.faultKind - 10;
        }
        Kitchen former = house;
        house = spareHouse;
        spareHouse = former;
        imageCount = 0;
        forgetRuns();
        beginWith(house.firstUnit());
        return house.values[ACROSS] * house.values[DOWN];
    }

    public int recipe(int n) throws IllegalArgumentException {
        if (!tape.open(n)) {
            throw new IllegalArgumentException("the tape has not so many bytes");
        }
        if (recipeCount >= MOST_RECIPES) {
            return -1;
        }
        Recipe free = freeRecipe();
        if (!tape.readRecipe(free)) {
            return tape.faultKind - 10;
        }
        recipeCount++;
        orders.known = false;
        return recipeCount - 1;
    }

    public int fault() {
        return tape.faultPlace;
    }

    public int told(int what) throws IllegalArgumentException {
        if (what < 0 || what > 9) {
            throw new IllegalArgumentException("told has 0 to 9");
        }
        if (what == 8) {
            return firstUnit;
        }
        return what == 9 ? recipeCount : house.values[what];
    }

    public int room(int hour) throws IllegalArgumentException {
        if (hour < 0 || hour > 23) {
            throw new IllegalArgumentException("an hour is 0 to 23");
        }
        return house.degrees[hour];
    }

    public int step(int recipe, int k, int what)
            throws NoSuchElementException, IndexOutOfBoundsException, IllegalArgumentException {
        Recipe asked = recipeOf(recipe);
        if (k < 0 || k >= asked.size) {
            throw new IndexOutOfBoundsException("no such step");
        }
        needWhat(what, 2);
        if (what == 0) {
            return asked.kinds[k];
        }
        return what == 1 ? asked.numbers[k] : asked.unitsOf(k);
    }

    public int steps(int recipe, int what) throws NoSuchElementException, IllegalArgumentException {
        Recipe asked = recipeOf(recipe);
        needWhat(what, 1);
        return what == 0 ? asked.size : runOf(recipe).done;
    }

    public int behind(int recipe, int k, int what)
            throws NoSuchElementException, IndexOutOfBoundsException, IllegalArgumentException {
        Slab slab = slabOf(recipe, k);
        needWhat(what, 3);
        switch (what) {
            case 0:
                return slab.across.length;
            case 1:
                return slab.down.length;
            case 2:
                return warmRunOf(recipe).gone[k];
            default:
                return warmRunOf(recipe).warmth[k];
        }
    }

    public long thin(int recipe, int k) throws NoSuchElementException, IndexOutOfBoundsException {
        return slabOf(recipe, k).thinness;
    }

    public long leaf(int recipe, int k, int x, int y, int what)
            throws NoSuchElementException, IndexOutOfBoundsException, IllegalArgumentException {
        Slab slab = slabOf(recipe, k);
        needCell(slab, x, y);
        needWhat(what, 4);
        switch (what) {
            case 0:
                return doughLeaves(slab.butterAt(x, y));
            case 1:
                return slab.butterAt(x, y);
            case 4:
                return slab.sheetsAt(x, y);
            default:
                // A stack has dough below and on top at first, and so has all that is laid of such.
                return 0;
        }
    }

    public long most(int recipe, int k, int what)
            throws NoSuchElementException, IndexOutOfBoundsException, IllegalArgumentException {
        Slab slab = slabOf(recipe, k);
        needWhat(what, 2);
        if (what == 2) {
            return slab.across.greatest(slab.across.sheets) * slab.down.greatest(slab.down.sheets);
        }
        long leaves = slab.mostButter();
        return what == 0 ? doughLeaves(leaves) : leaves;
    }

    public long least(int recipe, int k, int what)
            throws NoSuchElementException, IndexOutOfBoundsException, IllegalArgumentException {
        Slab slab = slabOf(recipe, k);
        needWhat(what, 2);
        if (what == 2) {
            return slab.across.smallest(slab.across.sheets) * slab.down.smallest(slab.down.sheets);
        }
        long leaves = slab.across.smallest(slab.across.butter) * slab.down.smallest(slab.down.butter);
        return what == 0 ? doughLeaves(leaves) : leaves;
    }

    public int having(int recipe, int k, long n) throws NoSuchElementException, IndexOutOfBoundsException {
        return slabOf(recipe, k).cellsWith(n);
    }

    public int kinds(int recipe, int k) throws NoSuchElementException, IndexOutOfBoundsException {
        // Dough is always one leaf more than butter, and lies at both ends: butter alone tells stacks apart.
        return unlike.products(slabOf(recipe, k));
    }

    public int block(int recipe, int k) throws NoSuchElementException, IndexOutOfBoundsException {
        return slabOf(recipe, k).greatestBlock();
    }

    public long joins(int recipe, int k, int what)
            throws NoSuchElementException, IndexOutOfBoundsException, IllegalArgumentException {
        Slab slab = slabOf(recipe, k);
        needWhat(what, 1);
        // Dough lies at both ends of every stack, so all that is laid joins, and never by butter.
        return what == 0 ? slab.laid : 0;
    }

    public long weight(int recipe, int k, int x, int y, int what)
            throws NoSuchElementException, IndexOutOfBoundsException, IllegalArgumentException {
        Slab slab = slabOf(recipe, k);
        needCell(slab, x, y);
        needWhat(what, 1);
        return partOfGrams(slab.sheetsAt(x, y), slab.thinness, what);
    }

    public long trimmed(int recipe, int k, int what)
            throws NoSuchElementException, IndexOutOfBoundsException, IllegalArgumentException {
        Slab slab = slabOf(recipe, k);
        needWhat(what, 1);
        return partOfGrams(slab.cutAway, slab.thinness, what);
    }

    public int wrong(int recipe, int what) throws NoSuchElementException, IllegalArgumentException {
        Recipe asked = recipeOf(recipe);
        needWhat(what, 2);
        Run run = warmRunOf(recipe);
        if (what == 2) {
            return run.done < asked.size ? run.done : NONE;
        }
        return what == 0 ? run.breaksIn : run.runsIn;
    }

    public int begin(int unit) throws IllegalArgumentException {
        if (unit < 0 || unit >= DAY_UNITS) {
            throw new IllegalArgumentException("a unit of the day is 0 to 287");
        }
        int former = firstUnit;
        beginWith(unit);
        return former;
    }

    public int latest(int recipe) throws NoSuchElementException {
        Recipe asked = recipeOf(recipe);
        Run run = runOf(recipe);
        if (!run.latestKnown) {
            run.latestUnit = run.done < asked.size ? NONE : butter.latestStart(house, asked);
            run.latestKnown = true;
        }
        return run.latestUnit;
    }

    public int soonest(int n, int what) throws IllegalArgumentException {
        return wayTo(n, what);
    }

    public int pass(int n, int i) throws IllegalArgumentException {
        if (wayTo(n, 0) == NONE) {
            return NONE;
        }
        int passes = Passes.fewestFor(n);
        if (i < 0 || i >= passes) {
            return NONE;
        }
        return 10 * searchedWays().waitOf(passes, i) + Passes.factorAt(n, i);
    }

    public int fewest(int n, int what) throws IllegalArgumentException {
        // A way less its last pass is a shorter way, so the soonest way always has the fewest passes.
        return wayTo(n, what);
    }

    public int bench(int what) throws IllegalArgumentException {
        needWhat(what, 2);
        orders.find(recipes, recipeCount);
        if (orders.total > Bench.MOST_BLOCKS) {
            return NONE;
        }
        if (what == 0) {
            return orders.bestDone;
        }
        return what == 1 ? orders.total : orders.idleUnits();
    }

    public int turnOf(int i) {
        orders.find(recipes, recipeCount);
        if (orders.total > Bench.MOST_BLOCKS || i < 0 || i >= orders.total) {
            return NONE;
        }
        return 1000 * orders.bestOrder[i] + orders.bestStarts[i];
    }

    public int image() {
        if (imageCount >= MOST_IMAGES) {
            return -1;
        }
        imageRecipes[imageCount] = recipeCount;
        imageBegins[imageCount] = firstUnit;
        imageCount++;
        return imageCount;
    }

    public int restore() {
        if (imageCount < 1) {
            return -1;
        }
        imageCount--;
        recipeCount = imageRecipes[imageCount];
        orders.known = false;
        beginWith(imageBegins[imageCount]);
        return imageCount;
    }

    public int count(int what) {
        if (what == 0) {
            return imageCount;
        }
        return what == 1 ? tape.held : NONE;
    }

    private static void needWhat(int what, int greatest) {
        if (what < 0 || what > greatest) {
            throw new IllegalArgumentException("no such what");
        }
    }

    private static void needLeaves(int n) {
        if (n < 1 || n > MOST_LEAVES) {
            throw new IllegalArgumentException("leaves are 1 to 1,024");
        }
    }

    private static void needCell(Slab slab, int x, int y) {
        if (x < 0 || x >= slab.across.length || y < 0 || y >= slab.down.length) {
            throw new IndexOutOfBoundsException("no such cell");
        }
    }

    /** Each butter leaf lies between two of dough, and what meets in between has joined. */
    private static long doughLeaves(long butterLeaves) {
        return butterLeaves + 1;
    }

    private Recipe freeRecipe() {
        Recipe free = recipes[recipeCount];
        if (free == null) {
            free = new Recipe();
            recipes[recipeCount] = free;
        }
        Run run = runs[recipeCount];
        if (run == null) {
            run = new Run();
            runs[recipeCount] = run;
        }
        run.forget();
        return free;
    }

    private void forgetRuns() {
        for (int i = 0; i < MOST_RECIPES; i++) {
            if (runs[i] != null) {
                runs[i].forget();
            }
        }
    }

    private void beginWith(int unit) {
        firstUnit = unit;
        for (int i = 0; i < MOST_RECIPES; i++) {
            if (runs[i] != null) {
                runs[i].warmed = false;
            }
        }
        if (ways != null) {
            ways.known = false;
        }
    }

    private Recipe recipeOf(int recipe) {
        if (recipe < 0 || recipe >= recipeCount || recipes[recipe] == null) {
            throw new NoSuchElementException("no such recipe");
        }
        return recipes[recipe];
    }

    private Run runOf(int recipe) {
        Recipe asked = recipeOf(recipe);
        Run run = runs[recipe];
        if (run == null) {
            throw new NoSuchElementException("no such recipe");
        }
        if (!run.laidOut) {
            run.layOut(house, asked);
        }
        return run;
    }

    private Run warmRunOf(int recipe) {
        Run run = runOf(recipe);
        if (!run.warmed) {
            butter.follow(house, recipeOf(recipe), firstUnit, run);
        }
        return run;
    }

    private Slab slabOf(int recipe, int k) {
        Run run = runOf(recipe);
        if (k < 0 || k > run.done) {
            throw new IndexOutOfBoundsException("so many steps are not done");
        }
        return run.slabs[k];
    }

    private long partOfGrams(long sheets, long thinness, int what) {
        long above = house.values[GRAMS] * sheets;
        long below = (long) house.values[ACROSS] * house.values[DOWN] * thinness;
        long common = commonDivisor(above, below);
        if (common < 1) {
            return 0;
        }
        return (what == 0 ? above : below) / common;
    }

    private static long commonDivisor(long one, long other) {
        long a = one;
        long b = other;
        // Euclid needs less than 93 rounds for any two longs.
        for (int i = 0; i < 100 && b != 0; i++) {
            long rest = a % b;
            a = b;
            b = rest;
        }
        return a;
    }

    private int wayTo(int n, int what) {
        needLeaves(n);
        needWhat(what, 1);
        int passes = Passes.fewestFor(n);
        if (passes == NONE) {
            return NONE;
        }
        int units = searchedWays().fewestUnits(house, firstUnit, passes);
        return what == 0 || units == NONE ? units : passes;
    }

    private Passes searchedWays() {
        if (ways == null) {
            ways = new Passes();
        }
        return ways;
    }

    /** The bytes fed, and the one reading of them as a text. */
    private static final class Tape {
        private static final int MOST_BYTES = 400;
        private static final int TOO_GREAT = 1000000;
        private static final int[] CLAUSE_LEAST = {2, 2, 0, 1, 0, 0, 0, 0, 0};
        private static final int[] CLAUSE_MOST = {12, 12, 3, 9999, 40, 40, 40, 99, 23};
        private static final int[] STEP_LEAST = {2, 2, 0, 1, 1, 0, 1, 1};
        private static final int[] STEP_MOST = {4, 4, 0, 9, 9, 0, 36, 36};

        final int[] bytes = new int[MOST_BYTES];
        int held;
        int faultKind;
        int faultPlace = NONE;
        private int end;
        private int at;
        private int wordAt;

        int append(int a, int b, int c, int d, int e) {
            if (held > MOST_BYTES - 20) {
                return NONE;
            }
            appendNumber(a);
            appendNumber(b);
            appendNumber(c);
            appendNumber(d);
            appendNumber(e);
            return held;
        }

        private void appendNumber(int number) {
            for (int shift = 24; shift >= 0 && held < MOST_BYTES; shift -= 8) {
                bytes[held] = (number >>> shift) & 255;
                held++;
            }
        }

        /** Takes the first n bytes as the text to read; false, with nothing done, if there are not so many. */
        boolean open(int n) {
            if (n < 0 || n > held) {
                return false;
            }
            end = n;
            at = 0;
            held = 0;
            faultKind = 0;
            faultPlace = NONE;
            return true;
        }

        boolean readKitchen(Kitchen into) {
            into.clear();
            for (int clauses = 0; clauses <= MOST_CLAUSES; clauses++) {
                readWord();
                if (wordAt >= end) {
                    into.settleRoom();
                    return true;
                }
                int clause = clauseRead();
                if (clause == NONE) {
                    return refuse(CANNOT_STAND, wordAt);
                }
                if (clauses >= MOST_CLAUSES) {
                    return refuse(TOO_MANY, wordAt);
                }
                if (!readClause(clause, into) || !readEnd()) {
                    return false;
                }
            }
            return false;
        }

        boolean readRecipe(Recipe into) {
            into.size = 0;
            for (int steps = 0; steps <= MOST_STEPS; steps++) {
                readWord();
                if (wordAt >= end) {
                    return steps > 0 || refuse(CANNOT_STAND, end);
                }
                int kind = stepRead();
                if (kind == NONE) {
                    return refuse(CANNOT_STAND, wordAt);
                }
                if (steps >= MOST_STEPS) {
                    return refuse(TOO_MANY, wordAt);
                }
                int number = STEP_MOST[kind] == 0 ? 0 : readNumber(STEP_LEAST[kind], STEP_MOST[kind]);
                if (number == NONE || !readEnd()) {
                    return false;
                }
                into.add(kind, number);
            }
            return false;
        }

        private boolean refuse(int kind, int place) {
            faultKind = kind;
            faultPlace = place;
            return false;
        }

        private boolean readClause(int clause, Kitchen into) {
            if (clause == ACROSS) {
                return readSlab(into);
            }
            if (clause == ROOM) {
                return readRoom(into);
            }
            int number = readNumber(CLAUSE_LEAST[clause], CLAUSE_MOST[clause]);
            if (number == NONE) {
                return false;
            }
            into.values[clause] = number;
            return true;
        }

        private boolean readSlab(Kitchen into) {
            int across = readNumber(CLAUSE_LEAST[ACROSS], CLAUSE_MOST[ACROSS]);
            if (across == NONE) {
                return false;
            }
            int down = readNumber(CLAUSE_LEAST[DOWN], CLAUSE_MOST[DOWN]);
            if (down == NONE) {
                return false;
            }
            // Both rims together must leave a cell between them, both ways.
            int widest = (Math.min(across, down) - 1) / 2;
            int rim = readNumber(CLAUSE_LEAST[RIM], Math.min(CLAUSE_MOST[RIM], widest));
            if (rim == NONE) {
                return false;
            }
            into.values[ACROSS] = across;
            into.values[DOWN] = down;
            into.values[RIM] = rim;
            return true;
        }

        private boolean readRoom(Kitchen into) {
            int hour = readNumber(0, 23);
            if (hour == NONE) {
                return false;
            }
            int degrees = readNumber(0, 40);
            if (degrees == NONE) {
                return false;
            }
            into.roomTold[hour] = degrees;
            return true;
        }

        private void skipBlanks() {
            while (at < end && bytes[at] == ' ') {
                at++;
            }
        }

        private void readWord() {
            skipBlanks();
            wordAt = at;
            while (at < end && bytes[at] >= 'a' && bytes[at] <= 'z') {
                at++;
            }
        }

        private boolean wordIs(String word) {
            int length = word.length();
            if (length == 0 || length != at - wordAt) {
                return false;
            }
            for (int i = 0; i < length; i++) {
                if (bytes[wordAt + i] != word.charAt(i)) {
                    return false;
                }
            }
            return true;
        }

        /** The number that stands next; NONE, with the fault noted, if none does or it is none such. */
        private int readNumber(int least, int most) {
            skipBlanks();
            int numberAt = at;
            int number = 0;
            while (at < end && bytes[at] >= '0' && bytes[at] <= '9') {
                number = Math.min(10 * number + bytes[at] - '0', TOO_GREAT);
                at++;
            }
            if (at == numberAt) {
                refuse(CANNOT_STAND, at);
                return NONE;
            }
            if (number < least || number > most) {
                refuse(NO_SUCH_NUMBER, numberAt);
                return NONE;
            }
            return number;
        }

        private boolean readEnd() {
            skipBlanks();
            if (at >= end || bytes[at] != ';') {
                return refuse(CANNOT_STAND, at);
            }
            at++;
            return true;
        }

        private int clauseRead() {
            for (int clause = ACROSS; clause <= ROOM; clause++) {
                if (wordIs(clauseWord(clause))) {
                    return clause;
                }
            }
            return NONE;
        }

        private int stepRead() {
            for (int kind = ROLL; kind <= STAND; kind++) {
                if (wordIs(stepWord(kind))) {
                    return kind;
                }
            }
            return NONE;
        }

        private static String clauseWord(int clause) {
            switch (clause) {
                case ACROSS:
                    return "slab";
                case GRAMS:
                    return "weight";
                case BOX:
                    return "box";
                case LOW:
                    return "low";
                case HIGH:
                    return "high";
                case RUB:
                    return "rub";
                case START:
                    return "start";
                case ROOM:
                    return "room";
                default:
                    return "";
            }
        }

        private static String stepWord(int kind) {
            switch (kind) {
                case ROLL:
                    return "roll";
                case FOLD:
                    return "fold";
                case BOOK:
                    return "book";
                case TUCK:
                    return "tuck";
                case CUT:
                    return "cut";
                case TURN:
                    return "turn";
                case REST:
                    return "rest";
                case STAND:
                    return "stand";
                default:
                    return "";
            }
        }
    }

    /** What a kitchen tells; its values stand in the order in which told() asks for them. */
    private static final class Kitchen {
        private static final int[] UNTOLD = {6, 4, 0, 1000, 4, 8, 18, 10, 6};
        private static final int UNTOLD_ROOM = 20;

        final int[] values = new int[UNTOLD.length];
        final int[] roomTold = new int[24];
        final int[] degrees = new int[24];

        Kitchen() {
            clear();
            settleRoom();
        }

        void clear() {
            for (int i = 0; i < values.length && i < UNTOLD.length; i++) {
                values[i] = UNTOLD[i];
            }
            for (int hour = 0; hour < 24; hour++) {
                roomTold[hour] = NONE;
            }
        }

        void settleRoom() {
            int current = UNTOLD_ROOM;
            // The greatest hour told reaches over midnight to the first one.
            for (int hour = 0; hour < 24; hour++) {
                current = roomTold[hour] == NONE ? current : roomTold[hour];
            }
            for (int hour = 0; hour < 24; hour++) {
                current = roomTold[hour] == NONE ? current : roomTold[hour];
                degrees[hour] = current;
            }
        }

        int firstUnit() {
            return HOUR_UNITS * values[START];
        }

        /** Tenths of the room in a unit that is counted from a midnight on. */
        int roomTenths(int unit) {
            int hour = unit / HOUR_UNITS % 24;
            return hour < 0 ? 0 : 10 * degrees[hour];
        }

        boolean hasOneRoom() {
            for (int hour = 1; hour < 24; hour++) {
                if (degrees[hour] != degrees[0]) {
                    return false;
                }
            }
            return true;
        }
    }

    /** The steps of a recipe. */
    private static final class Recipe {
        final int[] kinds = new int[MOST_STEPS];
        final int[] numbers = new int[MOST_STEPS];
        int size;

        void add(int kind, int number) {
            if (size < MOST_STEPS) {
                kinds[size] = kind;
                numbers[size] = number;
                size++;
            }
        }

        int unitsOf(int k) {
            switch (kinds[k]) {
                case ROLL:
                    return 2;
                case TURN:
                    return 0;
                case REST:
                case STAND:
                    return numbers[k];
                default:
                    return 1;
            }
        }
    }

    /**
     * One side of a slab. All that is done along a side is done in every row alike, so the first cells in the
     * stack at x, y are those of some first columns in some first rows: sheets, and leaves of butter, are what
     * the column counts times what the row counts.
     */
    private static final class Side {
        /** Above all that a column can count: a recipe's twenty steps lay far less than this. */
        private static final long BEYOND = 1L << 60;

        final long[] sheets = new long[LONGEST];
        final long[] butter = new long[LONGEST];
        int length;

        void layFirst(int cells, int rim) {
            length = cells;
            for (int i = 0; i < cells && i < LONGEST; i++) {
                sheets[i] = 1;
                butter[i] = i < rim || i >= cells - rim ? 0 : 1;
            }
        }

        /** Some columns of the former side, from one on. */
        void partOf(Side former, int from, int cells) {
            length = cells;
            for (int i = 0; i < cells && i < LONGEST; i++) {
                int column = from + i;
                if (column >= 0 && column < LONGEST) {
                    sheets[i] = former.sheets[column];
                    butter[i] = former.butter[column];
                }
            }
        }

        void rollOf(Side former, int n) {
            length = former.length * n;
            for (int i = 0; i < length && i < LONGEST; i++) {
                int column = n > 0 ? i / n : 0;
                sheets[i] = former.sheets[column];
                butter[i] = former.butter[column];
            }
        }

        /** Folded in n parts: of three the middle one lies lowest, else the left one. */
        void foldOf(Side former, int n) {
            int part = n > 0 ? former.length / n : 0;
            partOf(former, n == 3 ? part : 0, part);
            for (int i = 0; i < part; i++) {
                layOn(i, former, former.length - 1 - i);
                if (n == 3) {
                    layOn(i, former, part - 1 - i);
                }
                if (n == 4) {
                    layOn(i, former, 2 * part - 1 - i);
                    layOn(i, former, 2 * part + i);
                }
            }
        }

        void bookOf(Side former) {
            int quarter = former.length / 4;
            partOf(former, quarter, quarter);
            for (int i = 0; i < quarter; i++) {
                layOn(i, former, quarter - 1 - i);
                layOn(i, former, 3 * quarter - 1 - i);
                layOn(i, former, 3 * quarter + i);
            }
        }

        void tuckOf(Side former, int n) {
            int inner = former.length - 2 * n;
            partOf(former, n, inner);
            for (int i = 0; i < n; i++) {
                layOn(i, former, n - 1 - i);
                layOn(inner - 1 - i, former, former.length - n + i);
            }
        }

        private void layOn(int to, Side former, int column) {
            if (to >= 0 && to < LONGEST && column >= 0 && column < LONGEST) {
                sheets[to] += former.sheets[column];
                butter[to] += former.butter[column];
            }
        }

        long sheetsIn(int from, int cells) {
            long sum = 0;
            for (int i = from; i < from + cells && i < LONGEST; i++) {
                sum += i < 0 ? 0 : sheets[i];
            }
            return sum;
        }

        long greatest(long[] numbers) {
            long found = 0;
            for (int i = 0; i < length && i < numbers.length; i++) {
                found = Math.max(found, numbers[i]);
            }
            return found;
        }

        long smallest(long[] numbers) {
            long found = BEYOND;
            for (int i = 0; i < length && i < numbers.length; i++) {
                found = Math.min(found, numbers[i]);
            }
            return found;
        }

        /** The longest row of columns beside one another that have just so much butter. */
        int longestRow(long leaves) {
            int longest = 0;
            int row = 0;
            for (int i = 0; i < length && i < LONGEST; i++) {
                row = butter[i] == leaves ? row + 1 : 0;
                longest = Math.max(longest, row);
            }
            return longest;
        }
    }

    /** A slab behind some steps. */
    private static final class Slab {
        final Side across = new Side();
        final Side down = new Side();
        long thinness;
        long laid;
        /** Sheets trimmed, as many as there would be if all were as thin as the slab is now. */
        long cutAway;

        void layFirst(Kitchen house) {
            across.layFirst(house.values[ACROSS], house.values[RIM]);
            down.layFirst(house.values[DOWN], house.values[RIM]);
            thinness = 1;
            laid = 0;
            cutAway = 0;
        }

        static boolean canTake(int kind, int n, int length) {
            switch (kind) {
                case ROLL:
                    return length * n <= LONGEST;
                case FOLD:
                    return n > 0 && length % n == 0;
                case BOOK:
                    return length % 4 == 0;
                case TUCK:
                    return length >= 4 * n;
                case CUT:
                    return length > 2 * n;
                default:
                    return true;
            }
        }

        void becomeOf(Slab former, int kind, int n) {
            thinness = former.thinness;
            laid = former.laid;
            cutAway = former.cutAway;
            Side formerDown = kind == TURN ? former.across : former.down;
            down.partOf(formerDown, 0, formerDown.length);
            switch (kind) {
                case ROLL:
                    across.rollOf(former.across, n);
                    thinness *= n;
                    cutAway *= n;
                    break;
                case FOLD:
                    across.foldOf(former.across, n);
                    layEach((n - 1) * across.length);
                    break;
                case BOOK:
                    across.bookOf(former.across);
                    layEach(3 * across.length);
                    break;
                case TUCK:
                    across.tuckOf(former.across, n);
                    layEach(2 * n);
                    break;
                case CUT:
                    cutOf(former.across, n);
                    break;
                case TURN:
                    across.partOf(former.down, 0, former.down.length);
                    break;
                default:
                    across.partOf(former.across, 0, former.across.length);
                    break;
            }
        }

        private void cutOf(Side former, int n) {
            int inner = former.length - 2 * n;
            across.partOf(former, n, inner);
            long columns = former.sheetsIn(0, n) + former.sheetsIn(n + inner, n);
            cutAway += columns * down.sheetsIn(0, down.length);
        }

        private void layEach(int columns) {
            laid += (long) columns * down.length;
        }

        long butterAt(int x, int y) {
            return inside(x, y) ? across.butter[x] * down.butter[y] : 0;
        }

        long sheetsAt(int x, int y) {
            return inside(x, y) ? across.sheets[x] * down.sheets[y] : 0;
        }

        private static boolean inside(int x, int y) {
            return x >= 0 && x < LONGEST && y >= 0 && y < LONGEST;
        }

        long mostButter() {
            return across.greatest(across.butter) * down.greatest(down.butter);
        }

        int cellsWith(long leaves) {
            int found = 0;
            for (int x = 0; x < across.length; x++) {
                for (int y = 0; y < down.length; y++) {
                    if (butterAt(x, y) == leaves) {
                        found++;
                    }
                }
            }
            return found;
        }

        int greatestBlock() {
            long mostAcross = across.greatest(across.butter);
            long mostDown = down.greatest(down.butter);
            if (mostAcross == 0 || mostDown == 0) {
                return across.length * down.length;
            }
            return across.longestRow(mostAcross) * down.longestRow(mostDown);
        }
    }

    /** What comes of one recipe: a slab, units gone and warmth behind each step that is done. */
    private static final class Run {
        final Slab[] slabs = new Slab[MOST_STEPS + 1];
        final int[] gone = new int[MOST_STEPS + 1];
        final int[] warmth = new int[MOST_STEPS + 1];
        int done;
        int breaksIn;
        int runsIn;
        int latestUnit;
        boolean laidOut;
        boolean warmed;
        boolean latestKnown;

        Run() {
            for (int k = 0; k <= MOST_STEPS; k++) {
                slabs[k] = new Slab();
            }
        }

        void forget() {
            laidOut = false;
            warmed = false;
            latestKnown = false;
        }

        void layOut(Kitchen house, Recipe recipe) {
            slabs[0].layFirst(house);
            done = 0;
            for (int k = 0; k < recipe.size && k < MOST_STEPS; k++) {
                int kind = recipe.kinds[k];
                int n = recipe.numbers[k];
                if (!Slab.canTake(kind, n, slabs[k].across.length)) {
                    break;
                }
                slabs[k + 1].becomeOf(slabs[k], kind, n);
                done = k + 1;
            }
            laidOut = true;
        }
    }

    /** Counts how many unlike stacks a slab has. */
    private static final class Unlike {
        private final long[] columns = new long[LONGEST];
        private final long[] rows = new long[LONGEST];
        private final long[] found = new long[LONGEST * LONGEST];

        int products(Slab slab) {
            int columnKinds = distinct(slab.across, columns);
            int rowKinds = distinct(slab.down, rows);
            int size = 0;
            for (int i = 0; i < columnKinds && i < LONGEST; i++) {
                for (int j = 0; j < rowKinds && j < LONGEST; j++) {
                    size = addOnce(found, size, columns[i] * rows[j]);
                }
            }
            return size;
        }

        private static int distinct(Side side, long[] into) {
            int size = 0;
            for (int i = 0; i < side.length && i < LONGEST; i++) {
                size = addOnce(into, size, side.butter[i]);
            }
            return size;
        }

        private static int addOnce(long[] set, int size, long number) {
            for (int i = 0; i < size && i < set.length; i++) {
                if (set[i] == number) {
                    return size;
                }
            }
            if (size >= set.length) {
                return size;
            }
            set[size] = number;
            return size + 1;
        }
    }

    /** Butter on its way through a recipe, in tenths of a degree. */
    private static final class Butter {
        private Kitchen house;
        private int unit;
        private int warm;
        private boolean broke;
        private boolean ran;

        void follow(Kitchen kitchen, Recipe recipe, int firstUnit, Run run) {
            start(kitchen, firstUnit);
            run.breaksIn = NONE;
            run.runsIn = NONE;
            run.gone[0] = 0;
            run.warmth[0] = warm;
            for (int k = 0; k < run.done && k < MOST_STEPS; k++) {
                take(recipe.kinds[k], recipe.unitsOf(k));
                run.gone[k + 1] = unit - firstUnit;
                run.warmth[k + 1] = warm;
                if (broke && run.breaksIn == NONE) {
                    run.breaksIn = k;
                }
                if (ran && run.runsIn == NONE) {
                    run.runsIn = k;
                }
            }
            run.warmed = true;
        }

        int latestStart(Kitchen kitchen, Recipe recipe) {
            // In a room that never changes all starts are alike.
            int earliest = kitchen.hasOneRoom() ? DAY_UNITS - 1 : 0;
            for (int first = DAY_UNITS - 1; first >= earliest; first--) {
                if (staysWell(kitchen, recipe, first)) {
                    return first;
                }
            }
            return NONE;
        }

        private boolean staysWell(Kitchen kitchen, Recipe recipe, int firstUnit) {
            start(kitchen, firstUnit);
            for (int k = 0; k < recipe.size && k < MOST_STEPS; k++) {
                take(recipe.kinds[k], recipe.unitsOf(k));
                if (broke || ran) {
                    return false;
                }
            }
            return true;
        }

        private void start(Kitchen kitchen, int firstUnit) {
            house = kitchen;
            unit = firstUnit;
            warm = 10 * kitchen.values[BOX];
        }

        /** One step: broke and ran tell of this step alone. */
        private void take(int kind, int units) {
            int[] values = house.values;
            int tooWarm = 10 * values[HIGH];
            broke = kind == ROLL && warm < 10 * values[LOW];
            ran = false;
            for (int i = 0; i < units; i++) {
                warm += kind == REST ? (10 * values[BOX] - warm) / 5 : (house.roomTenths(unit) - warm) / 10;
                unit++;
                ran |= warm > tooWarm;
            }
            if (kind == ROLL) {
                warm += values[RUB];
            }
            ran |= warm > tooWarm;
        }
    }

    /**
     * The soonest ways by number of passes, whatever the factors are: they cost the same. States (passes done,
     * warmth) are gone through unit by unit; a pass takes 3 to 15 units, so 16 slots in a ring hold all to come.
     * A way's waits are the digits of its code, so that of two ways of as many passes the first has the less.
     */
    private static final class Passes {
        private static final int MOST_PASSES = 6;
        private static final int MOST_UNITS = 120;
        private static final int PASS_UNITS = 3;
        private static final int MOST_WAIT = 12;
        private static final int WAITS = 25;
        private static final int SLOTS = 16;
        private static final int WARMTHS = 401;
        private static final int NEVER = 1000;

        /** A way's code and one, by slot, passes done and warmth; 0 where there is none. */
        private final int[] codes = new int[SLOTS * MOST_PASSES * WARMTHS];
        private final int[] coldest = new int[SLOTS * MOST_PASSES];
        private final int[] warmest = new int[SLOTS * MOST_PASSES];
        private final int[] bestUnits = new int[MOST_PASSES + 1];
        private final int[] bestCodes = new int[MOST_PASSES + 1];
        private final int[] roomTenths = new int[MOST_UNITS + 1];
        private int now;
        private int box;
        private int low;
        private int high;
        private int rub;
        boolean known;

        /** Of how many 2, 3 and 4 a number is the product, at the fewest; NONE if it is no such product. */
        static int fewestFor(int n) {
            int twos = timesIn(n, 2);
            int threes = timesIn(n, 3);
            int product = 1 << twos;
            for (int i = 0; i < threes; i++) {
                product *= 3;
            }
            return product == n ? (twos + 1) / 2 + threes : NONE;
        }

        /** The i-th of these factors, the least ones first. */
        static int factorAt(int n, int i) {
            int oddTwos = timesIn(n, 2) % 2;
            if (i < oddTwos) {
                return 2;
            }
            return i < oddTwos + timesIn(n, 3) ? 3 : 4;
        }

        private static int timesIn(int n, int prime) {
            int left = n;
            int found = 0;
            for (int i = 0; i < 31 && prime > 1 && left > 0 && left % prime == 0; i++) {
                left /= prime;
                found++;
            }
            return found;
        }

        int fewestUnits(Kitchen house, int firstUnit, int passes) {
            if (passes < 0 || passes > MOST_PASSES) {
                return NONE;
            }
            if (!known) {
                start(house, firstUnit);
            }
            // What comes of the states at now is done 3 units later at the soonest.
            while (now + PASS_UNITS <= MOST_UNITS && now + PASS_UNITS <= bestUnits[passes]) {
                spreadSlot();
                now++;
            }
            return bestUnits[passes] >= NEVER ? NONE : bestUnits[passes];
        }

        int waitOf(int passes, int i) {
            if (passes < 1 || passes > MOST_PASSES || i < 0) {
                return 0;
            }
            int code = bestCodes[passes] - 1;
            for (int later = passes - 1; later > i; later--) {
                code /= WAITS;
            }
            return code % WAITS;
        }

        private void start(Kitchen house, int firstUnit) {
            box = 10 * house.values[BOX];
            low = 10 * house.values[LOW];
            high = 10 * house.values[HIGH];
            rub = house.values[RUB];
            for (int unit = 0; unit <= MOST_UNITS; unit++) {
                roomTenths[unit] = house.roomTenths(firstUnit + unit);
            }
            for (int slot = 0; slot < SLOTS * MOST_PASSES; slot++) {
                emptySlot(slot);
            }
            for (int passes = 0; passes <= MOST_PASSES; passes++) {
                bestUnits[passes] = NEVER;
                bestCodes[passes] = 0;
            }
            now = 0;
            enter(0, 0, box, 0);
            known = true;
        }

        private void emptySlot(int slot) {
            for (int warm = coldest[slot]; warm <= warmest[slot]; warm++) {
                codes[slot * WARMTHS + warm] = 0;
            }
            coldest[slot] = WARMTHS;
            warmest[slot] = NONE;
        }

        private void spreadSlot() {
            for (int done = 0; done < MOST_PASSES; done++) {
                int slot = now % SLOTS * MOST_PASSES + done;
                for (int warm = coldest[slot]; warm <= warmest[slot]; warm++) {
                    int code = codes[slot * WARMTHS + warm];
                    if (code > 0) {
                        spreadState(done, warm, (code - 1) * WAITS);
                    }
                }
                emptySlot(slot);
            }
        }

        private void spreadState(int done, int warm, int code) {
            rollAndFold(done, now, warm, code);
            int rested = warm;
            for (int wait = 1; wait <= MOST_WAIT; wait++) {
                rested += (box - rested) / 5;
                if (rested > high) {
                    break;
                }
                rollAndFold(done, now + wait, rested, code + wait);
            }
            int stood = warm;
            for (int wait = 1; wait <= MOST_WAIT && now + wait <= MOST_UNITS; wait++) {
                stood += (roomTenths[now + wait - 1] - stood) / 10;
                if (stood > high) {
                    break;
                }
                rollAndFold(done, now + wait, stood, code + MOST_WAIT + wait);
            }
        }

        private void rollAndFold(int done, int unit, int warm, int code) {
            if (warm < low || unit + PASS_UNITS > MOST_UNITS) {
                return;
            }
            int warmer = warm + (roomTenths[unit] - warm) / 10;
            if (warmer > high) {
                return;
            }
            warmer += (roomTenths[unit + 1] - warmer) / 10;
            if (warmer > high || warmer + rub > high) {
                return;
            }
            warmer += rub;
            warmer += (roomTenths[unit + 2] - warmer) / 10;
            if (warmer <= high) {
                enter(done + 1, unit + PASS_UNITS, warmer, code);
            }
        }

        private void enter(int done, int unit, int warm, int code) {
            if (unit < bestUnits[done] || unit == bestUnits[done] && code + 1 < bestCodes[done]) {
                bestUnits[done] = unit;
                bestCodes[done] = code + 1;
            }
            if (done >= MOST_PASSES || warm < 0 || warm >= WARMTHS) {
                return;
            }
            int slot = unit % SLOTS * MOST_PASSES + done;
            int place = slot * WARMTHS + warm;
            if (codes[place] == 0 || code + 1 < codes[place]) {
                codes[place] = code + 1;
                coldest[slot] = coldest[slot] < warm ? coldest[slot] : warm;
                warmest[slot] = warmest[slot] > warm ? warmest[slot] : warm;
            }
        }
    }

    /**
     * The best order of all blocks on one bench: orders are tried, the first ones first, but for those that can't be
     * done sooner than the best one known, or that an earlier order of the same blocks has outdone.
     */
    private static final class Bench {
        static final int MOST_BLOCKS = 12;
        private static final int ROW = MOST_STEPS + 2;
        private static final int NEVER = 1000000;
        /** Four recipes of three blocks each have the most ways to be partly done: 4 to the fourth power. */
        private static final int MOST_PARTS = 256;
        private static final int KEPT = 2;

        /** By recipe and block: units of the block, rests ahead of it, and all that is due from its begin on. */
        private final int[] units = new int[MOST_RECIPES * ROW];
        private final int[] rests = new int[MOST_RECIPES * ROW];
        private final int[] due = new int[MOST_RECIPES * ROW];
        private final int[] sizes = new int[MOST_RECIPES];
        private final int[] next = new int[MOST_RECIPES];
        private final int[] ready = new int[MOST_RECIPES];
        private final int[] order = new int[MOST_BLOCKS];
        private final int[] starts = new int[MOST_BLOCKS];
        /** By what is done: the latest few ways to it, each by the times at which all can go on. */
        private final int[] marks = new int[MOST_PARTS * KEPT * MOST_RECIPES];
        private final int[] markCounts = new int[MOST_PARTS];
        final int[] bestOrder = new int[MOST_BLOCKS];
        final int[] bestStarts = new int[MOST_BLOCKS];
        private int recipeCount;
        private int workLeft;
        private int work;
        private int bestEnd;
        int total;
        int bestDone;
        boolean known;

        void find(Recipe[] recipes, int count) {
            if (known) {
                return;
            }
            known = true;
            recipeCount = Math.min(count, MOST_RECIPES);
            total = 0;
            work = 0;
            for (int r = 0; r < recipeCount; r++) {
                if (recipes[r] != null) {
                    partInBlocks(recipes[r], r);
                }
            }
            if (total > MOST_BLOCKS) {
                return;
            }
            for (int i = 0; i < MOST_PARTS; i++) {
                markCounts[i] = 0;
            }
            // The first order that is as good as a quick guess is looked for, not only better ones.
            bestDone = quickDone() + 1;
            bestEnd = 0;
            goBack();
            placeNext(0, 0);
        }

        int idleUnits() {
            return bestEnd - work;
        }

        private void partInBlocks(Recipe recipe, int r) {
            int row = r * ROW;
            int block = 0;
            units[row] = 0;
            rests[row] = 0;
            for (int k = 0; k < recipe.size && k < MOST_STEPS; k++) {
                int taken = recipe.unitsOf(k);
                if (recipe.kinds[k] != REST) {
                    units[row + block] += taken;
                    continue;
                }
                block = endBlock(row, block);
                rests[row + block] += taken;
            }
            block = endBlock(row, block);
            sizes[r] = block;
            total += block;
            countDue(row, block);
        }

        /** Steps of no units are no block: then what comes next goes on where these were. */
        private int endBlock(int row, int block) {
            if (units[row + block] == 0) {
                return block;
            }
            units[row + block + 1] = 0;
            rests[row + block + 1] = 0;
            return block + 1;
        }

        private void countDue(int row, int blocks) {
            due[row + blocks] = 0;
            for (int block = blocks - 1; block >= 0; block--) {
                work += units[row + block];
                due[row + block] = units[row + block] + rests[row + block + 1] + due[row + block + 1];
            }
        }

        private void goBack() {
            workLeft = work;
            for (int r = 0; r < recipeCount; r++) {
                next[r] = 0;
                ready[r] = rests[r * ROW];
            }
        }

        /** When all are done if always the block that can begin first does, of these the one with the most due. */
        private int quickDone() {
            goBack();
            int free = 0;
            for (int placed = 0; placed < total && placed < MOST_BLOCKS; placed++) {
                int r = quickNext(free);
                if (r == NONE) {
                    break;
                }
                int place = r * ROW + next[r];
                free = Math.max(free, ready[r]) + units[place];
                ready[r] = free + rests[place + 1];
                next[r]++;
            }
            return lastReady();
        }

        private int quickNext(int free) {
            int found = NONE;
            int foundStart = 0;
            int foundDue = 0;
            for (int r = 0; r < recipeCount; r++) {
                if (next[r] < sizes[r]) {
                    int start = Math.max(free, ready[r]);
                    int rest = due[r * ROW + next[r]];
                    if (found == NONE || start < foundStart || start == foundStart && rest > foundDue) {
                        found = r;
                        foundStart = start;
                        foundDue = rest;
                    }
                }
            }
            return found;
        }

        private int lastReady() {
            int last = 0;
            for (int r = 0; r < recipeCount; r++) {
                last = Math.max(last, ready[r]);
            }
            return last;
        }

        private void placeNext(int placed, int free) {
            if (placed >= total || placed >= MOST_BLOCKS) {
                keepOrder(free);
                return;
            }
            for (int r = 0; r < recipeCount; r++) {
                if (next[r] < sizes[r]) {
                    placeBlock(placed, free, r);
                }
            }
        }

        private void placeBlock(int placed, int free, int r) {
            int place = r * ROW + next[r];
            int formerReady = ready[r];
            int start = Math.max(free, formerReady);
            int end = start + units[place];
            next[r]++;
            ready[r] = end + rests[place + 1];
            workLeft -= units[place];
            if (leastDone(end) < bestDone && !outdone(end)) {
                order[placed] = r;
                starts[placed] = start;
                placeNext(placed + 1, end);
            }
            workLeft += units[place];
            ready[r] = formerReady;
            next[r]--;
        }

        /** No order of what is left is done sooner: neither a recipe for itself nor the bench allows it. */
        private int leastDone(int free) {
            int least = 0;
            int firstStart = NEVER;
            int leastRest = NEVER;
            for (int r = 0; r < recipeCount; r++) {
                int start = canGoOn(r, free);
                if (next[r] >= sizes[r]) {
                    least = Math.max(least, start);
                } else {
                    least = Math.max(least, start + due[r * ROW + next[r]]);
                    firstStart = Math.min(firstStart, start);
                    leastRest = Math.min(leastRest, rests[r * ROW + sizes[r]]);
                }
            }
            return workLeft > 0 ? Math.max(least, firstStart + workLeft + leastRest) : least;
        }

        /** When a recipe's next block can begin, or when it is done. */
        private int canGoOn(int r, int free) {
            return next[r] < sizes[r] && ready[r] < free ? free : ready[r];
        }

        /** Whether an earlier order of the same blocks lets all go on as soon; if none does, this one is kept. */
        private boolean outdone(int free) {
            int part = 0;
            for (int r = 0; r < recipeCount; r++) {
                part = part * (sizes[r] + 1) + next[r];
            }
            if (part < 0 || part >= MOST_PARTS) {
                return false;
            }
            for (int i = 0; i < KEPT && i < markCounts[part]; i++) {
                if (isNoLater((part * KEPT + i) * MOST_RECIPES, free)) {
                    return true;
                }
            }
            int mark = (part * KEPT + markCounts[part] % KEPT) * MOST_RECIPES;
            markCounts[part]++;
            for (int r = 0; r < recipeCount; r++) {
                marks[mark + r] = canGoOn(r, free);
            }
            return false;
        }

        private boolean isNoLater(int mark, int free) {
            for (int r = 0; r < recipeCount; r++) {
                if (marks[mark + r] > canGoOn(r, free)) {
                    return false;
                }
            }
            return true;
        }

        private void keepOrder(int end) {
            int done = lastReady();
            if (done >= bestDone) {
                return;
            }
            bestDone = done;
            bestEnd = end;
            for (int i = 0; i < total && i < MOST_BLOCKS; i++) {
                bestOrder[i] = order[i];
                bestStarts[i] = starts[i];
            }
        }
    }
}
