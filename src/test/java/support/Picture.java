import java.util.ArrayList;
import java.util.List;

/** All that can be told of an object by its calls, also what only undo, back, lay and forget bring to light. */
final class Picture {
    private static final int MOST_UNDONE = 8, MOST_KEPT = 2, MOST_WORDS = 10;

    private final List<String> lines = new ArrayList<>();

    private Picture() {
    }

    static Picture of(Story story) {
        Picture picture = new Picture();
        picture.standing("", story.play());
        picture.answers(story.play());
        picture.safeAndBest(story.play());
        picture.lures(story.play());
        picture.undone(story.play());
        picture.kept(story.play());
        picture.laid(story.play());
        return picture;
    }

    /** Answers where the other one differs, or nothing. */
    String unlike(Picture other) {
        for (int i = 0; i < Math.max(lines.size(), other.lines.size()); i++) {
            String mine = i < lines.size() ? lines.get(i) : "nothing";
            String others = i < other.lines.size() ? other.lines.get(i) : "nothing";
            if (!mine.equals(others)) {
                return mine + " against " + others;
            }
        }
        return "";
    }

    private void add(String what, int answer) {
        lines.add(what + " = " + answer);
    }

    private void standing(String when, TwoMayors x) {
        for (int what = 0; what < 10; what++) {
            add(when + "count(" + what + ")", x.count(what));
        }
        for (int w = 0; w < MOST_WORDS; w++) {
            for (int what = 0; what < 4; what++) {
                add(when + "word(" + w + ", " + what + ")", x.word(w, what));
            }
        }
        acted(when, x);
        add(when + "fault()", x.fault());
    }

    private void acted(String when, TwoMayors x) {
        for (int what = 1; what < 5; what++) {
            add(when + "count(" + what + ")", x.count(what));
        }
        for (int what = 0; what < 4; what++) {
            add(when + "mayor(0, " + what + ")", x.mayor(0, what));
            add(when + "mayor(1, " + what + ")", x.mayor(1, what));
        }
        for (int k = 0; k < 12; k++) {
            add(when + "said(" + k + ")", x.said(k));
        }
    }

    private void answers(TwoMayors x) {
        for (int k = -1; k < 4; k++) {
            add("finishing(" + k + ")", x.finishing(k));
        }
        for (int w = 0; w < MOST_WORDS; w++) {
            add("sitting(" + w + ")", x.sitting(w));
        }
        for (int n = 1; n <= 8; n++) {
            add("ways(" + n + ", 0)", x.ways(n, 0));
            add("ways(" + n + ", 1)", x.ways(n, 1));
        }
        for (int what = 0; what < 3; what++) {
            add("council(0, 1, " + what + ")", x.council(0, 1, what));
            add("council(9999, 60, " + what + ")", x.council(9999, 60, what));
            add("guessed(" + what + ")", x.guessed(what));
        }
        add("forget()", x.forget());
        add("guessed(0) of nothing seen", x.guessed(0));
    }

    private void safeAndBest(TwoMayors x) {
        for (int k = -1; k < 10; k++) {
            for (int w = 0; w < MOST_WORDS; w++) {
                add("safe(" + w + ", " + k + ")", x.safe(w, k));
            }
        }
        for (int k = -2; k < 10; k++) {
            for (int n = 1; n <= 10; n++) {
                add("best(" + n + ", " + k + ")", x.best(n, k));
            }
        }
    }

    private void lures(TwoMayors x) {
        for (int k = -1; k < 10; k++) {
            for (int w = 0; w < MOST_WORDS; w++) {
                add("lure(" + w + ", " + k + ")", x.lure(w, k));
            }
        }
    }

    private void undone(TwoMayors x) {
        for (int i = 1; i <= MOST_UNDONE + 1; i++) {
            add("undo() for the " + i + ". time", x.undo());
            acted("undone " + i + " times: ", x);
        }
    }

    private void kept(TwoMayors x) {
        for (int i = 1; i <= MOST_KEPT + 1; i++) {
            add("back() for the " + i + ". time", x.back());
            acted("back " + i + " times: ", x);
            add("undo() behind it", x.undo());
        }
    }

    private void laid(TwoMayors x) {
        add("lay()", x.lay());
        standing("laid anew: ", x);
        add("wipe()", x.wipe());
    }
}
