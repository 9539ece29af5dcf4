import java.util.ArrayList;
import java.util.Arrays;
import java.util.List;
import java.util.Random;

/** Runs of calls drawn from fixed seeds, each answer held against the Model's. */
public final class FuzzTest {
    private static final String[] WITH_RECIPE = {"step", "steps", "behind", "thin", "leaf", "most", "least", "having",
        "kinds", "block", "joins", "weight", "trimmed", "wrong", "latest"};
    private static final int[] LEAVES = {1, 2, 3, 4, 5, 6, 7, 8, 9, 10, 12, 16, 18, 24, 27, 32, 36, 48, 54, 64, 81, 108,
        243, 256, 324, 486, 512, 729, 972, 1024};

    /** What an object is good for: what later calls answer is free. */
    private static final int MOST_CALLS = 512;

    private final Random random;
    private final ButterLeaves x = new ButterLeaves();
    private final Model model = new Model();
    private final List<String> said = new ArrayList<>();
    private final String run;
    private int calls;

    private FuzzTest(long seed) {
        random = new Random(seed);
        run = "run of seed " + seed;
    }

    public static void main(String[] args) {
        int runs = args.length > 0 ? Integer.parseInt(args[0]) : 45;
        long from = args.length > 1 ? Long.parseLong(args[1]) : 1;
        for (long seed = from; seed < from + runs && Check.allWell(); seed++) {
            new FuzzTest(seed).play();
        }
        Check.end();
    }

    private void play() {
        while (calls < MOST_CALLS && Check.allWell()) {
            int pick = random.nextInt(100);
            try {
                if (pick < 5) {
                    tell(kitchenText(), true);
                } else if (pick < 15) {
                    tell(recipeText(), false);
                } else {
                    ask(pick);
                }
            } catch (Model.TooBig e) {
                // The model's own stacks have a limit: what it can't hold is not asked for.
                continue;
            }
        }
    }

    private void ask(int pick) {
        if (pick < 18) {
            call("begin", random.nextInt(8) == 0 ? edge(0, 287) : random.nextInt(288));
        } else if (pick < 20) {
            call("image");
        } else if (pick < 22) {
            call("restore");
        } else if (pick < 25) {
            call("told", edge(0, 9));
        } else if (pick < 27) {
            call("room", edge(0, 23));
        } else if (pick < 29) {
            call("count", edge(0, 1));
        } else if (pick < 31) {
            call("fault");
        } else if (pick < 33) {
            askWay();
        } else if (pick < 36) {
            call("bench", edge(0, 2));
        } else if (pick < 39) {
            call("turnOf", edge(0, 8));
        } else {
            askRecipe(WITH_RECIPE[random.nextInt(WITH_RECIPE.length)]);
        }
    }

    private void askWay() {
        int n = random.nextInt(20) == 0 ? edge(1, 1024) : LEAVES[random.nextInt(LEAVES.length)];
        String name = random.nextBoolean() ? "soonest" : "fewest";
        call(name, n, edge(0, 1));
        call("pass", n, random.nextInt(7) - 1);
    }

    private void askRecipe(String name) {
        int recipe = random.nextInt(12) == 0 ? edge(0, 3) : random.nextInt(Math.max(1, model.recipes.size()));
        int done = recipe >= 0 && recipe < model.recipes.size() ? model.run(recipe).size() - 1 : 3;
        int k = random.nextInt(10) == 0 ? edge(0, done) : random.nextInt(done + 1);
        switch (name) {
            case "steps":
                call(name, recipe, edge(0, 1));
                break;
            case "wrong":
                call(name, recipe, edge(0, 2));
                break;
            case "latest":
                call(name, recipe);
                break;
            case "step":
                call(name, recipe, k, edge(0, 2));
                break;
            case "thin":
            case "kinds":
            case "block":
                call(name, recipe, k);
                break;
            case "having":
                call(name, recipe, k, random.nextInt(6) == 0 ? random.nextLong() : random.nextInt(10));
                break;
            case "leaf":
            case "weight":
                call(name, recipe, k, edge(0, random.nextInt(14)), edge(0, random.nextInt(14)), edge(0, 4));
                break;
            default:
                call(name, recipe, k, edge(0, 3));
                break;
        }
    }

    private int edge(int least, int most) {
        int pick = random.nextInt(40);
        if (pick == 0) {
            return least - 1;
        }
        if (pick == 1) {
            return most + 1;
        }
        if (pick == 2) {
            return random.nextInt();
        }
        return least + random.nextInt(most - least + 1);
    }

    private void tell(String text, boolean kitchen) {
        if (random.nextInt(5) == 0) {
            text = spoiled(text);
        }
        if (random.nextInt(3) > 0) {
            text = text.replace(";", random.nextBoolean() ? " ; " : "; ");
        }
        byte[] bytes = Check.bytes(text);
        for (int from = 0; from < bytes.length; from += 20) {
            int[] n = Check.numbers(bytes, from);
            call("feed", n[0], n[1], n[2], n[3], n[4]);
        }
        int n = random.nextInt(25) == 0 ? edge(0, 100) : bytes.length;
        call(kitchen ? "kitchen" : "recipe", n);
        call("fault");
    }

    private String spoiled(String text) {
        StringBuilder s = new StringBuilder(text);
        if (s.length() == 0) {
            return random.nextBoolean() ? "  " : ";";
        }
        int at = random.nextInt(s.length());
        switch (random.nextInt(4)) {
            case 0:
                s.deleteCharAt(at);
                break;
            case 1:
                s.insert(at, "0123456789 ;abz".charAt(random.nextInt(15)));
                break;
            case 2:
                s.setCharAt(at, (char) random.nextInt(256));
                break;
            default:
                s.setLength(at);
                break;
        }
        return s.toString();
    }

    private String kitchenText() {
        StringBuilder s = new StringBuilder();
        int clauses = random.nextInt(40) == 0 ? 29 + random.nextInt(4) : random.nextInt(8);
        for (int i = 0; i < clauses; i++) {
            if (clauses > 20) {
                s.append("low ").append(random.nextInt(12));
            } else {
                s.append(clause());
            }
            s.append(';');
        }
        return s.toString();
    }

    private String clause() {
        switch (random.nextInt(9)) {
            case 0:
            case 1:
                return "slab " + (2 + random.nextInt(11)) + " " + (2 + random.nextInt(11)) + " " + random.nextInt(4);
            case 2:
                return "weight " + (random.nextInt(10) == 0 ? edge(1, 9999) : 1 + random.nextInt(9999));
            case 3:
                return "box " + (random.nextInt(6) == 0 ? random.nextInt(42) : random.nextInt(9));
            case 4:
                return "low " + (random.nextInt(6) == 0 ? random.nextInt(42) : random.nextInt(10));
            case 5:
                return "high " + (random.nextInt(6) == 0 ? random.nextInt(42) : 12 + random.nextInt(20));
            case 6:
                return "rub " + random.nextInt(101);
            case 7:
                return "start " + random.nextInt(25);
            default:
                return "room " + random.nextInt(24) + " " + random.nextInt(41);
        }
    }

    private String recipeText() {
        StringBuilder s = new StringBuilder();
        int steps = random.nextInt(40) == 0 ? 19 + random.nextInt(4) : 1 + random.nextInt(9);
        for (int i = 0; i < steps; i++) {
            if (steps > 18) {
                s.append(random.nextBoolean() ? "turn" : "rest 1");
            } else {
                s.append(stepText());
            }
            s.append(';');
        }
        return s.toString();
    }

    private String stepText() {
        switch (random.nextInt(9)) {
            case 0:
            case 1:
                return "roll " + (2 + random.nextInt(random.nextInt(4) == 0 ? 4 : 2));
            case 2:
                return "fold " + (2 + random.nextInt(random.nextInt(8) == 0 ? 4 : 3));
            case 3:
                return "book";
            case 4:
                return "tuck " + (random.nextInt(4) == 0 ? 1 + random.nextInt(10) : 1);
            case 5:
                return "cut " + (random.nextInt(4) == 0 ? 1 + random.nextInt(10) : 1);
            case 6:
                return "turn";
            case 7:
                return "rest " + (1 + random.nextInt(random.nextInt(3) == 0 ? 37 : 8));
            default:
                return "stand " + (1 + random.nextInt(random.nextInt(3) == 0 ? 37 : 8));
        }
    }

    private void call(String name, long... a) {
        if (calls >= MOST_CALLS) {
            return;
        }
        calls++;
        String shown = name + Arrays.toString(a);
        String want;
        try {
            want = Long.toString(model.call(name, a));
        } catch (Model.TooBig e) {
            throw e;
        } catch (RuntimeException e) {
            want = e.getClass().getSimpleName();
        }
        String got;
        try {
            got = Long.toString(made(name, a));
        } catch (RuntimeException e) {
            got = e.getClass().getSimpleName();
        }
        said.add(shown + " -> " + got);
        if (!got.equals(want)) {
            Check.say(run + ": " + shown + " answered " + got + ", the model says " + want);
            for (String line : said) {
                System.out.println("    " + line);
            }
            for (int[][] recipe : model.recipes) {
                System.out.println("    recipe " + Arrays.deepToString(recipe));
            }
        }
    }

    private long made(String name, long[] a) {
        int[] i = Arrays.stream(a).mapToInt(v -> (int) v).toArray();
        switch (name) {
            case "feed":
                return x.feed(i[0], i[1], i[2], i[3], i[4]);
            case "kitchen":
                return x.kitchen(i[0]);
            case "recipe":
                return x.recipe(i[0]);
            case "fault":
                return x.fault();
            case "told":
                return x.told(i[0]);
            case "room":
                return x.room(i[0]);
            case "begin":
                return x.begin(i[0]);
            case "soonest":
                return x.soonest(i[0], i[1]);
            case "pass":
                return x.pass(i[0], i[1]);
            case "fewest":
                return x.fewest(i[0], i[1]);
            case "bench":
                return x.bench(i[0]);
            case "turnOf":
                return x.turnOf(i[0]);
            case "image":
                return x.image();
            case "restore":
                return x.restore();
            case "count":
                return x.count(i[0]);
            default:
                return madeOfRecipe(name, i, a);
        }
    }

    private long madeOfRecipe(String name, int[] i, long[] a) {
        switch (name) {
            case "step":
                return x.step(i[0], i[1], i[2]);
            case "steps":
                return x.steps(i[0], i[1]);
            case "behind":
                return x.behind(i[0], i[1], i[2]);
            case "thin":
                return x.thin(i[0], i[1]);
            case "leaf":
                return x.leaf(i[0], i[1], i[2], i[3], i[4]);
            case "most":
                return x.most(i[0], i[1], i[2]);
            case "least":
                return x.least(i[0], i[1], i[2]);
            case "having":
                return x.having(i[0], i[1], a[2]);
            case "kinds":
                return x.kinds(i[0], i[1]);
            case "block":
                return x.block(i[0], i[1]);
            case "joins":
                return x.joins(i[0], i[1], i[2]);
            case "weight":
                return x.weight(i[0], i[1], i[2], i[3], i[4]);
            case "trimmed":
                return x.trimmed(i[0], i[1], i[2]);
            case "wrong":
                return x.wrong(i[0], i[1]);
            case "latest":
                return x.latest(i[0]);
            default:
                throw new UnsupportedOperationException(name);
        }
    }
}
