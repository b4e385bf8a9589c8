import java.util.ArrayList;
import java.util.List;
import java.util.Random;

/** Long runs of drawn calls, each answer beside that of the model. */
public final class ModelTest {
    private static final int RUNS = 400;
    /** What an object answers beyond these is free. */
    private static final int MOST_CALLS = 512;
    private static final int CALLS = 508;
    /** Every second run leaves room for asking all that can be asked. */
    private static final int CALLS_AHEAD_OF_ALL = 230;
    private static final int CALLS_OF_WRITING = 215;

    private final Random random;
    private final String name;
    private final TwoMayors mayors = new TwoMayors();
    private final Model model = new Model();
    private final boolean asksAll;
    private int calls = 0;

    private ModelTest(int seed) {
        random = new Random(seed);
        name = "run " + seed;
        asksAll = seed % 2 == 0;
    }

    public static void main(String[] args) {
        for (int seed = 0; seed < RUNS && Check.wrongSoFar() < 20; seed++) {
            new ModelTest(seed).play();
        }
        Check.close();
    }

    private void due(String call, int got, int want) {
        calls++;
        Check.due(name + ", call " + calls + ": " + call, got, want);
    }

    private void play() {
        if (random.nextInt(4) > 0) {
            write(drawnText());
            layAndCount();
        }
        int most = asksAll ? CALLS_AHEAD_OF_ALL : CALLS;
        while (calls < most) {
            if (random.nextInt(3) == 0) {
                ask();
            } else {
                act();
            }
            if (random.nextInt(4) == 0) {
                int k = oneOf(-1, 3);
                due("finishing(" + k + ")", mayors.finishing(k), model.finishing(k));
            }
            if (random.nextInt(120) == 0 && calls + CALLS_OF_WRITING <= most) {
                writeAnew();
            }
        }
        if (asksAll) {
            askAll();
        }
        if (calls > MOST_CALLS) {
            throw new IllegalStateException("a run of too many calls: " + calls);
        }
    }

    private void write(String text) {
        for (int i = 0; i < text.length(); i++) {
            due("write(" + (int) text.charAt(i) + ")", mayors.write(text.charAt(i)), model.write(text.charAt(i)));
        }
    }

    private void layAndCount() {
        due("fault()", mayors.fault(), model.fault());
        due("lay()", mayors.lay(), model.lay());
        for (int what = 0; what < 10; what++) {
            due("count(" + what + ")", mayors.count(what), model.count(what));
        }
    }

    private void writeAnew() {
        due("wipe()", mayors.wipe(), model.wipe());
        String text = drawnText();
        if (random.nextBoolean()) {
            StringBuilder spoilt = new StringBuilder(text);
            String signs = "wgklc0123456789,; x";
            spoilt.setCharAt(random.nextInt(text.length()), signs.charAt(random.nextInt(signs.length())));
            text = spoilt.toString();
        }
        write(text);
        layAndCount();
    }

    /** Sparse where there are many words, so that the model can try out every sentence. */
    private String drawnText() {
        int words = 1 + random.nextInt(10);
        List<String> items = new ArrayList<>();
        for (int w = 0; w < words; w++) {
            int kind = random.nextInt(3) == 0 ? 2 : random.nextInt(4);
            items.add("w" + kind + "," + random.nextInt(random.nextBoolean() ? 10 : 3) + ";");
        }
        int most = words <= 3 ? words * words : words <= 5 ? 2 * words + 2 : words * 2;
        int edges = most - random.nextInt(most / 2 + 1);
        for (int i = 0; i < edges; i++) {
            items.add("g" + random.nextInt(words) + "," + random.nextInt(words) + ";");
        }
        int knows = random.nextInt(words * 2 + 1);
        for (int i = 0; i < knows; i++) {
            items.add("k" + random.nextInt(2) + "," + random.nextInt(words) + ";");
        }
        if (random.nextInt(4) > 0) {
            items.add("l" + (1 + random.nextInt(4)) + ";");
        }
        if (random.nextBoolean()) {
            items.add(random.nextInt(items.size() + 1), "c" + random.nextInt(2) + ";");
        }
        StringBuilder text = new StringBuilder();
        for (String item : items) {
            if (text.length() + item.length() <= 200) {
                text.append(item);
            }
        }
        return text.toString();
    }

    private int word() {
        int n = model.count(0);
        if (random.nextInt(60) == 0) {
            return extreme();
        }
        return random.nextInt(12) == 0 ? random.nextInt(n + 4) - 2 : random.nextInt(n);
    }

    private int extreme() {
        return random.nextBoolean() ? Integer.MIN_VALUE + random.nextInt(3) : Integer.MAX_VALUE - random.nextInt(3);
    }

    private int oneOf(int least, int most) {
        return random.nextInt(40) == 0 ? extreme() : least - 1 + random.nextInt(most - least + 3);
    }

    private void act() {
        int w = word();
        int m = random.nextInt(15) == 0 ? oneOf(0, 1) : random.nextInt(2);
        switch (random.nextInt(14)) {
            case 0: due("end()", mayors.end(), model.end()); break;
            case 1: due("finish()", mayors.finish(), model.finish()); break;
            case 2: if (random.nextInt(4) == 0) due("drop()", mayors.drop(), model.drop()); break;
            case 3: due("learn(" + m + ", " + w + ")", mayors.learn(m, w), model.learn(m, w)); break;
            case 4: if (random.nextBoolean()) due("undo()", mayors.undo(), model.undo()); break;
            case 5: if (random.nextInt(4) == 0) due("keep()", mayors.keep(), model.keep()); break;
            case 6: if (random.nextInt(5) == 0) due("back()", mayors.back(), model.back()); break;
            default: due("say(" + w + ")", mayors.say(w), model.say(w)); break;
        }
    }

    private void ask() {
        int w = word();
        int k = oneOf(-1, 9);
        int n = oneOf(1, 10);
        int what = oneOf(0, 3);
        switch (random.nextInt(16)) {
            case 0: due("finishing(" + what + ")", mayors.finishing(what), model.finishing(what)); break;
            case 1: due("safe(" + w + ", " + k + ")", mayors.safe(w, k), model.safe(w, k)); break;
            case 2: due("best(" + n + ", " + k + ")", mayors.best(n, k), model.best(n, k)); break;
            case 3: due("lure(" + w + ", " + k + ")", mayors.lure(w, k), model.lure(w, k)); break;
            case 4: due("sitting(" + w + ")", mayors.sitting(w), model.sitting(w)); break;
            case 5: due("ways(" + n + ", " + what + ")", mayors.ways(n, what), model.ways(n, what)); break;
            case 6: due("seen(" + w + ", " + what + ")", mayors.seen(w, what), model.seen(w, what)); break;
            case 7: if (random.nextInt(5) == 0) due("forget()", mayors.forget(), model.forget()); break;
            case 8: due("guessed(" + what + ")", mayors.guessed(what), model.guessed(what)); break;
            case 9: council(random.nextInt(10000), 1 + random.nextInt(60), what); break;
            case 10: council(oneOf(0, 9999), oneOf(1, 60), what); break;
            case 11: due("word(" + w + ", " + what + ")", mayors.word(w, what), model.word(w, what)); break;
            case 12: due("mayor(" + w + ", " + what + ")", mayors.mayor(w, what), model.mayor(w, what)); break;
            case 13: due("said(" + k + ")", mayors.said(k), model.said(k)); break;
            case 14: due("fault()", mayors.fault(), model.fault()); break;
            default: due("count(" + k + ")", mayors.count(k), model.count(k)); break;
        }
    }

    private void council(int z, int n, int what) {
        due("council(" + z + ", " + n + ", " + what + ")", mayors.council(z, n, what), model.council(z, n, what));
    }

    private void askAll() {
        for (int w = 0; w < model.count(0); w++) {
            for (int k = -1; k < 10; k++) {
                due("safe(" + w + ", " + k + ")", mayors.safe(w, k), model.safe(w, k));
                due("lure(" + w + ", " + k + ")", mayors.lure(w, k), model.lure(w, k));
            }
            due("sitting(" + w + ")", mayors.sitting(w), model.sitting(w));
        }
        for (int k = -1; k < 4; k++) {
            due("finishing(" + k + ")", mayors.finishing(k), model.finishing(k));
        }
        for (int k = -2; k < 10; k++) {
            due("best(10, " + k + ")", mayors.best(10, k), model.best(10, k));
            due("best(7, " + k + ")", mayors.best(7, k), model.best(7, k));
        }
        for (int n = 1; n <= 8; n++) {
            due("ways(" + n + ", 0)", mayors.ways(n, 0), model.ways(n, 0));
            due("ways(" + n + ", 1)", mayors.ways(n, 1), model.ways(n, 1));
        }
        for (int what = 0; what < 3; what++) {
            due("guessed(" + what + ")", mayors.guessed(what), model.guessed(what));
        }
    }
}
