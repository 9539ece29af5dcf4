/** Promises 29 to 31: images, going back to them, counts. */
public final class ImagesTest {
    public static void main(String[] args) {
        images();
        limits();
        runsAfterRestore();
        counts();
        Check.end();
    }

    private static void images() {
        ButterLeaves x = Check.with("start 1;", "turn;");
        Check.due("image 1", x.image(), 1);
        x.begin(100);
        Check.recipe(x, "book;");
        Check.due("image 2", x.image(), 2);
        x.begin(200);
        Check.recipe(x, "cut 1;");
        Check.feed(x, "box 4;");
        Check.due("one left", x.restore(), 1);
        Check.due("recipes", x.told(9), 2);
        Check.due("begin", x.told(8), 100);
        Check.due("the tape stays", x.count(1), 20);
        Check.dueMissing("the third is gone", () -> x.steps(2, 0));
        Check.due("none left", x.restore(), 0);
        Check.due("recipes at first", x.told(9), 1);
        Check.due("begin at first", x.told(8), 12);
        Check.due("there is none", x.restore(), -1);
        Check.due("nothing done", x.told(9), 1);
    }

    private static void limits() {
        ButterLeaves x = new ButterLeaves();
        Check.due("1", x.image(), 1);
        Check.due("2", x.image(), 2);
        Check.due("3", x.image(), 3);
        x.begin(7);
        Check.due("no fourth", x.image(), -1);
        Check.due("images", x.count(0), 3);
        Check.due("2 left", x.restore(), 2);
        Check.due("the third was taken ahead of begin", x.told(8), 72);
    }

    private static void runsAfterRestore() {
        ButterLeaves x = Check.with("room 0 0;room 12 20;", "stand 1;");
        x.image();
        Check.due("cold", x.behind(0, 1, 3), 36);
        x.begin(144);
        Check.due("warm", x.behind(0, 1, 3), 56);
        Check.recipe(x, "roll 2;roll 3;");
        Check.due("thin", x.thin(1, 2), 6);
        x.restore();
        Check.due("cold again", x.behind(0, 1, 3), 36);
        Check.due("another second one", Check.recipe(x, "fold 2;"), 1);
        Check.due("is another", x.steps(1, 0), 1);
        Check.due("runs anew", x.behind(1, 1, 0), 3);
        Check.due("is not stuck", x.wrong(1, 2), -1);
        Check.due("has a latest begin of its own", x.latest(1), 287);
    }

    private static void counts() {
        ButterLeaves x = new ButterLeaves();
        x.feed(1, 2, 3, 4, 5);
        Check.due("bytes", x.count(1), 20);
        int[] none = {-1, 2, Integer.MIN_VALUE, Integer.MAX_VALUE};
        for (int what : none) {
            Check.due("count(" + what + ")", x.count(what), -1);
        }
    }
}
