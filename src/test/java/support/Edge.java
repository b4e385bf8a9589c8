import java.io.IOException;
import java.nio.file.Files;
import java.nio.file.Path;

/** Checks of boundary cases, each under the sentence of the document that names it. */
final class Edge {
    static final int BAD = -1, NO = -2, FULL = -3, NONE = -4;
    static final int LEAST = Integer.MIN_VALUE, MOST = Integer.MAX_VALUE;

    private static final Path DOCUMENT = Path.of("../shared/DOC.md");

    private static String quoted = "";

    private Edge() {
    }

    /** What is checked here is told by this sentence, which must stand in the document, where that is at hand. */
    static void sentence(String words, Runnable checks) {
        quoted = words;
        if (Files.exists(DOCUMENT)) {
            Check.due("stands in the document: " + words, document().contains(words) ? 1 : 0, 1);
        }
        int before = Check.soFar();
        checks.run();
        Check.due("is checked: " + words, Check.soFar() > before ? 1 : 0, 1);
    }

    private static String document() {
        try {
            return Files.readString(DOCUMENT);
        } catch (IOException e) {
            throw new IllegalStateException("the document can not be read: " + DOCUMENT, e);
        }
    }

    static void due(String call, int got, int want) {
        Check.due("'" + quoted + "': " + call, got, want);
    }

    /** The call answers so, once more too, and nothing is changed by it. */
    static void still(Story story, String name, Story.Call call, int want) {
        TwoMayors x = story.play();
        due(name, call.on(x), want);
        due(name + " once more", call.on(x), want);
        alike(name + " changes nothing", story.then(call), story);
    }

    /** Nothing tells the one from the other. */
    static void alike(String name, Story one, Story other) {
        String unlike = Picture.of(one).unlike(Picture.of(other));
        due(name + (unlike.isEmpty() ? "" : ", but " + unlike), unlike.isEmpty() ? 1 : 0, 1);
    }

    static void counts(TwoMayors x, int... wanted) {
        for (int what = 0; what < wanted.length; what++) {
            due("count(" + what + ")", x.count(what), wanted[what]);
        }
    }

    static void mayor(TwoMayors x, int m, int... wanted) {
        for (int what = 0; what < wanted.length; what++) {
            due("mayor(" + m + ", " + what + ")", x.mayor(m, what), wanted[what]);
        }
    }

    /** Numbers that are no words where there are so many: some would pass for one, were they cut to a few bits. */
    static int[] noWords(int words) {
        return new int[] {-1, words, words + 1, 31, 32, 33, 64, 256, 65536, -32, -256, LEAST, LEAST + 1, MOST};
    }

    static int[] outside(int least, int most) {
        return new int[] {least - 1, most + 1, least - 2, most + 2, LEAST, MOST};
    }
}
