import java.nio.charset.StandardCharsets;

/** An ObjectForge with texts told as Strings; it counts and prints what is not as due. */
final class Bench {
    static final int BYTE = 1;
    static final int OPERATION = 2;
    static final int OPERANDS = 3;
    static final int RANGE = 4;
    static final int TWICE = 5;
    static final int PLACE = 6;
    static final int MANY = 7;

    interface Call {
        int run();
    }

    private static int checks = 0;
    private static int wrong = 0;
    private static String sentence = "";

    ObjectForge forge = new ObjectForge();

    /** The words of the document that the checks from now on are about. */
    static void about(String words) {
        sentence = words;
    }

    static void due(String what, long got, long want) {
        checks++;
        if (got != want) {
            tellWrong(what + " answered " + got + ", due is " + want);
        }
    }

    private static void tellWrong(String what) {
        wrong++;
        System.out.println(what + (sentence.isEmpty() ? "" : " [" + sentence + "]"));
    }

    /** A call that has to throw just this exception. */
    static void dueThrow(String what, Class<? extends RuntimeException> want, Call call) {
        checks++;
        try {
            int got = call.run();
            tellWrong(what + " answered " + got + ", due is " + want.getSimpleName());
        } catch (RuntimeException e) {
            if (e.getClass() != want) {
                tellWrong(what + " threw " + e + ", due is " + want.getSimpleName());
            }
        }
    }

    static void dueIndex(String what, Call call) {
        dueThrow(what, IndexOutOfBoundsException.class, call);
    }

    static void dueState(String what, Call call) {
        dueThrow(what, IllegalStateException.class, call);
    }

    static void dueArgument(String what, Call call) {
        dueThrow(what, IllegalArgumentException.class, call);
    }

    /** The last line of every test's main. */
    static void close(String name) {
        System.out.println(name + ": " + checks + " checks, " + wrong + " wrong");
        if (wrong > 0 || checks == 0) {
            System.exit(1);
        }
    }

    /** Adds a text, one character a byte. */
    void feed(String text) {
        byte[] bytes = text.getBytes(StandardCharsets.ISO_8859_1);
        for (int from = 0; from < bytes.length; from += 16) {
            int[] words = new int[4];
            for (int i = 0; i < 16 && from + i < bytes.length; i++) {
                words[i / 4] |= (bytes[from + i] & 255) << (24 - i % 4 * 8);
            }
            forge.feed(words[0], words[1], words[2], words[3]);
            if (from + 16 > bytes.length) {
                forge.end(from + 16 - bytes.length);
            }
        }
    }

    int make(String text) {
        feed(text);
        return forge.assemble();
    }

    /** A text alone on a new forge that has no fault. */
    static Bench made(String text) {
        Bench bench = new Bench();
        due("assemble " + show(text), bench.make(text), 0);
        due("fault of " + show(text), bench.forge.fault(0), 0);
        due("line of " + show(text), bench.forge.fault(1), 0);
        return bench;
    }

    /** A text alone on a new forge that has this fault. */
    static void dueFault(String text, int fault, int line) {
        Bench bench = new Bench();
        due("assemble " + show(text), bench.make(text), ObjectForge.NONE);
        due("fault of " + show(text), bench.forge.fault(0), fault);
        due("line of " + show(text), bench.forge.fault(1), line);
        due("objects behind " + show(text), bench.forge.count(1, 0), 0);
        due("text behind " + show(text), bench.forge.count(0, 0), 0);
    }

    /** A text whose first section has just these words. */
    static Bench dueWords(String text, int... words) {
        Bench bench = made(text);
        due("size of " + show(text), bench.forge.size(0, 0), 4L * words.length);
        for (int i = 0; i < words.length && i * 4 + 3 < bench.forge.size(0, 0); i++) {
            due("word " + i + " of " + show(text), bench.wordOf(0, 0, i * 4), words[i]);
        }
        return bench;
    }

    /** A text whose DATA has just these bytes. */
    static Bench dueData(String text, int... bytes) {
        Bench bench = made(text);
        due("data's size of " + show(text), bench.forge.size(0, 1), bytes.length);
        for (int i = 0; i < bytes.length && i < bench.forge.size(0, 1); i++) {
            due("byte " + i + " of " + show(text), bench.forge.byteAt(0, 1, i), bytes[i]);
        }
        return bench;
    }

    int wordOf(int object, int section, int place) {
        int word = 0;
        for (int i = 0; i < 4; i++) {
            word = word << 8 | forge.byteAt(object, section, place + i);
        }
        return word;
    }

    String nameOf(int object, int k) {
        StringBuilder name = new StringBuilder();
        for (int i = 0; i < forge.symbol(object, k, 3); i++) {
            name.append((char) forge.letter(object, k, i));
        }
        return name.toString();
    }

    void dueSymbol(int object, int k, String name, int section, int value, int global) {
        String what = "symbol " + k + " of object " + object;
        due(what + " is " + name, name.equals(nameOf(object, k)) ? 1 : 0, 1);
        due(what + " section", forge.symbol(object, k, 0), section);
        due(what + " value", forge.symbol(object, k, 1), value);
        due(what + " global", forge.symbol(object, k, 2), global);
    }

    /** Section, place, kind, symbol, addend of relocation k. */
    void dueRelocation(int object, int k, int... wanted) {
        for (int what = 0; what < wanted.length; what++) {
            due("relocation " + k + " of object " + object + ", " + what,
                    forge.relocation(object, k, what), wanted[what]);
        }
    }

    static String show(String text) {
        String shown = text.replace("\n", "\\n");
        return shown.length() > 90 ? shown.substring(0, 90) + ".." : shown;
    }
}
