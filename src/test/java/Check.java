import java.nio.charset.StandardCharsets;

/** What the tests share: texts put on the tape, answers held against those that are due, and the end of a test. */
final class Check {
    private static int wrong = 0;
    private static String sentence = "";

    private Check() {
    }

    /** A call whose answer, or exception, is looked at. */
    interface Call {
        long answer();
    }

    /** From here on all is of these words of the document, which must stand there; a fault is told with them. */
    static void sentence(String part, String words) {
        sentence = part + " (" + words + ") ";
        if (!Doc.quote(part, words)) {
            say("these words do not stand there");
        }
    }

    static void due(String call, long got, long want) {
        if (got != want) {
            wrong++;
            System.out.println(sentence + call + " answered " + got + ", due is " + want);
        }
    }

    static void dueThrow(String call, Class<? extends RuntimeException> want, Call made) {
        String got;
        try {
            got = Long.toString(made.answer());
        } catch (RuntimeException e) {
            if (e.getClass() == want) {
                return;
            }
            got = e.getClass().getName();
        }
        wrong++;
        System.out.println(sentence + call + " answered " + got + ", due is a throw of " + want.getName());
    }

    static void dueIllegal(String call, Call made) {
        dueThrow(call, IllegalArgumentException.class, made);
    }

    static void dueOutside(String call, Call made) {
        dueThrow(call, IndexOutOfBoundsException.class, made);
    }

    static void dueMissing(String call, Call made) {
        dueThrow(call, java.util.NoSuchElementException.class, made);
    }

    static void say(String fault) {
        wrong++;
        System.out.println(sentence + fault);
    }

    static boolean allWell() {
        return wrong == 0;
    }

    static void end() {
        if (wrong != 0) {
            System.out.println(wrong + " answers are not as due");
            System.exit(1);
        }
    }

    /** The five numbers by which 20 bytes from a place on are fed; beyond the text they are 0. */
    static int[] numbers(byte[] bytes, int from) {
        int[] numbers = new int[5];
        for (int i = 0; i < 20; i++) {
            int sign = from + i < bytes.length ? bytes[from + i] & 255 : 0;
            numbers[i / 4] = numbers[i / 4] << 8 | sign;
        }
        return numbers;
    }

    static byte[] bytes(String text) {
        return text.getBytes(StandardCharsets.ISO_8859_1);
    }

    static int feed(ButterLeaves x, String text) {
        byte[] bytes = bytes(text);
        for (int from = 0; from < bytes.length; from += 20) {
            int[] n = numbers(bytes, from);
            x.feed(n[0], n[1], n[2], n[3], n[4]);
        }
        return bytes.length;
    }

    static int kitchen(ButterLeaves x, String text) {
        return x.kitchen(feed(x, text));
    }

    static int recipe(ButterLeaves x, String text) {
        return x.recipe(feed(x, text));
    }

    /** A new object with a kitchen and recipes, all of them told without a fault. */
    static ButterLeaves with(String kitchen, String... recipes) {
        ButterLeaves x = new ButterLeaves();
        if (kitchen(x, kitchen) < 0) {
            say("kitchen refused: " + kitchen + " at " + x.fault());
        }
        for (String text : recipes) {
            if (recipe(x, text) < 0) {
                say("recipe refused: " + text + " at " + x.fault());
            }
        }
        return x;
    }
}
