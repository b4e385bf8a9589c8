import java.util.ArrayList;
import java.util.List;

/** Calls that can be made anew on a new object: an object can not be copied, but what led to it can be played again. */
final class Story {
    /** A story leaves room for a look at the object within its 512 calls. */
    private static final int MOST_CALLS = 260;

    interface Call {
        int on(TwoMayors x);
    }

    private final List<Call> calls;

    private Story(List<Call> calls) {
        this.calls = calls;
    }

    static Story ofNew() {
        return new Story(List.of());
    }

    static Story of(String text) {
        return ofNew().write(text).lay();
    }

    TwoMayors play() {
        TwoMayors x = new TwoMayors();
        for (Call call : calls) {
            call.on(x);
        }
        return x;
    }

    /** Goes on with a call, whatever it answers. */
    Story then(Call call) {
        List<Call> more = new ArrayList<>(calls);
        more.add(call);
        if (more.size() > MOST_CALLS) {
            throw new IllegalStateException("a story of too many calls");
        }
        return new Story(more);
    }

    /** Goes on with a call that must not be refused, so that no story tells another thing than it seems to. */
    private Story done(String name, Call call) {
        return then(x -> {
            int answer = call.on(x);
            if (answer < 0) {
                throw new IllegalStateException(name + " was refused with " + answer);
            }
            return answer;
        });
    }

    Story write(String text) {
        Story story = this;
        for (char letter : text.toCharArray()) {
            story = story.done("write " + letter, x -> x.write(letter));
        }
        return story;
    }

    Story wipe() {
        return done("wipe", TwoMayors::wipe);
    }

    Story lay() {
        return done("lay", TwoMayors::lay);
    }

    Story say(int... words) {
        Story story = this;
        for (int w : words) {
            story = story.done("say " + w, x -> x.say(w));
        }
        return story;
    }

    Story end() {
        return done("end", TwoMayors::end);
    }

    Story finish() {
        return done("finish", TwoMayors::finish);
    }

    Story drop() {
        return done("drop", TwoMayors::drop);
    }

    Story learn(int m, int w) {
        return done("learn " + m + ", " + w, x -> x.learn(m, w));
    }

    Story undo() {
        return done("undo", TwoMayors::undo);
    }

    Story seen(int w, int could) {
        return done("seen " + w + ", " + could, x -> x.seen(w, could));
    }

    Story forget() {
        return done("forget", TwoMayors::forget);
    }

    Story keep() {
        return done("keep", TwoMayors::keep);
    }

    Story back() {
        return done("back", TwoMayors::back);
    }
}
