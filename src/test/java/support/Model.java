import java.math.BigInteger;
import java.util.ArrayDeque;
import java.util.ArrayList;
import java.util.Deque;
import java.util.List;
import java.util.TreeSet;
import java.util.function.Predicate;
import java.util.regex.Matcher;
import java.util.regex.Pattern;

/** The document once more, as slowly and plainly as it reads: every sentence is tried out one by one. */
final class Model {
    private static final int BAD = -1, NO = -2, FULL = -3, NONE = -4;
    private static final String AT_FIRST = "w0,3;w0,1;w1,5;w2,2;w2,4;w3,1;w0,2;g0,1;g0,2;g1,3;g1,6;g2,3;g2,4;"
        + "g5,3;g6,4;g6,0;g3,2;k0,3;k0,4;k1,3;k1,1;l2;c0;";
    private static final Pattern ITEM = Pattern.compile("([wgklc])(\\d\\d?)(?:,(\\d\\d?))?;");

    private static final class Laid {
        final List<int[]> words = new ArrayList<>();
        final boolean[][] may = new boolean[10][10];
        final List<TreeSet<Integer>> known = List.of(new TreeSet<>(), new TreeSet<>());
        int longest = 2;
        int chain = 0;
        int fault = NONE;
    }

    private static final class State {
        List<Integer> sentence = new ArrayList<>();
        int[] decrees = new int[2];
        int[] gained = new int[2];
        List<TreeSet<Integer>> known = new ArrayList<>();
        int chain;
        int minute;
        int over;

        State copy() {
            State s = new State();
            s.sentence = new ArrayList<>(sentence);
            s.decrees = decrees.clone();
            s.gained = gained.clone();
            for (TreeSet<Integer> k : known) {
                s.known.add(new TreeSet<>(k));
            }
            s.chain = chain;
            s.minute = minute;
            s.over = over;
            return s;
        }
    }

    private String text = "";
    private Laid laid;
    private State now;
    private final Deque<State> past = new ArrayDeque<>();
    private final Deque<State> kept = new ArrayDeque<>();
    private final List<int[]> seen = new ArrayList<>();

    Model() {
        text = AT_FIRST;
        lay();
        text = "";
    }

    private static Laid read(String text) {
        Laid laid = new Laid();
        Matcher m = ITEM.matcher(text);
        int at = 0;
        while (at < text.length()) {
            m.region(at, text.length());
            if (!m.lookingAt() || !take(laid, m)) {
                laid.fault = at;
                return laid;
            }
            at = m.end();
        }
        return laid;
    }

    private static boolean take(Laid laid, Matcher m) {
        char letter = m.group(1).charAt(0);
        int a = Integer.parseInt(m.group(2));
        boolean two = m.group(3) != null;
        int b = two ? Integer.parseInt(m.group(3)) : -1;
        int n = laid.words.size();
        if (two != (letter == 'w' || letter == 'g' || letter == 'k')) {
            return false;
        }
        if (letter == 'w') {
            return a <= 3 && b <= 9 && n < 10 && laid.words.add(new int[] {a, b});
        } else if (letter == 'g') {
            if (a >= n || b >= n) {
                return false;
            }
            laid.may[a][b] = true;
        } else if (letter == 'k') {
            if (a > 1 || b >= n) {
                return false;
            }
            laid.known.get(a).add(b);
        } else if (letter == 'l') {
            if (a < 1 || a > 4) {
                return false;
            }
            laid.longest = a;
        } else {
            if (a > 1) {
                return false;
            }
            laid.chain = a;
        }
        return true;
    }

    private boolean isWord(int w) {
        return w >= 0 && w < laid.words.size();
    }

    private int kind(int w) {
        return laid.words.get(w)[0];
    }

    private int worth(List<Integer> row) {
        int sum = 0;
        for (int w : row) {
            sum += laid.words.get(w)[1];
        }
        return sum;
    }

    private static int last(List<Integer> row) {
        return row.get(row.size() - 1);
    }

    /** The finishing of a sentence by one who knows these words, or null. */
    private List<Integer> finishingOf(List<Integer> sentence, TreeSet<Integer> known) {
        if (sentence.isEmpty()) {
            return null;
        }
        return finishingOf(last(sentence), kind(sentence.get(0)) == 3, known);
    }

    private List<Integer> finishingOf(int last, boolean any, TreeSet<Integer> known) {
        if (kind(last) == 1) {
            return null;
        }
        for (int length = 1; length <= laid.longest; length++) {
            List<Integer> row = new ArrayList<>();
            if (tryFinishing(last, length, any, known, row)) {
                return row;
            }
        }
        return null;
    }

    private boolean tryFinishing(int last, int length, boolean any, TreeSet<Integer> known, List<Integer> row) {
        if (length == 0) {
            return kind(last) == 2;
        }
        for (int w = 0; w < laid.words.size(); w++) {
            if (laid.may[last][w] && (any || known.contains(w))) {
                row.add(w);
                if (tryFinishing(w, length - 1, any, known, row)) {
                    return true;
                }
                row.remove(row.size() - 1);
            }
        }
        return false;
    }

    private TreeSet<Integer> knownByOther(State s) {
        return s.known.get(1 - s.chain);
    }

    // ---- boroughs

    int write(int letter) {
        if (letter < 32 || letter > 126) {
            return BAD;
        }
        if (text.length() == 200) {
            return FULL;
        }
        text += (char) letter;
        return text.length();
    }

    int wipe() {
        int n = text.length();
        text = "";
        return n;
    }

    int fault() {
        return read(text).fault;
    }

    int lay() {
        Laid fresh = read(text);
        if (fresh.fault != NONE || fresh.words.isEmpty()) {
            return NO;
        }
        laid = fresh;
        now = new State();
        now.chain = laid.chain;
        for (TreeSet<Integer> k : laid.known) {
            now.known.add(new TreeSet<>(k));
        }
        past.clear();
        kept.clear();
        seen.clear();
        return laid.words.size();
    }

    private static int bits(Iterable<Integer> set) {
        int bits = 0;
        for (int w : set) {
            bits |= 1 << w;
        }
        return bits;
    }

    int word(int w, int what) {
        if (!isWord(w) || what < 0 || what > 3) {
            return BAD;
        }
        if (what < 2) {
            return laid.words.get(w)[what];
        }
        int bits = 0;
        if (what == 2) {
            for (int i = 0; i < 10; i++) {
                bits += laid.may[w][i] ? 1 << i : 0;
            }
        } else {
            bits += now.known.get(0).contains(w) ? 1 : 0;
            bits += now.known.get(1).contains(w) ? 2 : 0;
        }
        return bits;
    }

    int mayor(int m, int what) {
        if (m < 0 || m > 1 || what < 0 || what > 3) {
            return BAD;
        }
        int[] answers = {now.chain == m ? 1 : 0, now.decrees[m], now.gained[m], bits(now.known.get(m))};
        return answers[what];
    }

    int said(int k) {
        return k < 0 ? BAD : k < now.sentence.size() ? now.sentence.get(k) : NONE;
    }

    // ---- acts

    private void remember() {
        past.addLast(now.copy());
        if (past.size() > 8) {
            past.removeFirst();
        }
    }

    private boolean fits(State s, int w) {
        return s.sentence.isEmpty() || laid.may[last(s.sentence)][w];
    }

    int say(int w) {
        if (!isWord(w)) {
            return BAD;
        }
        if (!fits(now, w)) {
            return NO;
        }
        if (now.sentence.size() == 12) {
            return FULL;
        }
        remember();
        now.sentence.add(w);
        now.minute++;
        return now.sentence.size();
    }

    private boolean canEnd(State s) {
        return !s.sentence.isEmpty() && kind(last(s.sentence)) == 2;
    }

    private int doEnd(State s) {
        int worth = worth(s.sentence);
        s.decrees[s.chain]++;
        s.gained[s.chain] += worth;
        s.sentence.clear();
        return worth;
    }

    int end() {
        if (!canEnd(now)) {
            return NO;
        }
        remember();
        return doEnd(now);
    }

    private int doFinish(State s, List<Integer> row) {
        s.minute += row.size();
        s.sentence.addAll(row);
        s.chain = 1 - s.chain;
        s.over++;
        return doEnd(s);
    }

    int finish() {
        List<Integer> row = finishingOf(now.sentence, knownByOther(now));
        if (row == null) {
            return NO;
        }
        remember();
        return doFinish(now, row);
    }

    int drop() {
        if (now.sentence.isEmpty()) {
            return NO;
        }
        remember();
        int n = now.sentence.size();
        now.sentence.clear();
        now.minute++;
        return n;
    }

    int learn(int m, int w) {
        if (m < 0 || m > 1 || !isWord(w)) {
            return BAD;
        }
        remember();
        if (now.known.get(m).remove(w)) {
            return 0;
        }
        now.known.get(m).add(w);
        return 1;
    }

    int undo() {
        if (past.isEmpty()) {
            return NO;
        }
        now = past.removeLast();
        return past.size();
    }

    // ---- sentences

    private static int told(List<Integer> row, int k) {
        if (row == null) {
            return NONE;
        }
        return k == -1 ? row.size() : k < row.size() ? row.get(k) : NONE;
    }

    int finishing(int k) {
        if (k < -1 || k > 3) {
            return BAD;
        }
        return told(finishingOf(now.sentence, knownByOther(now)), k);
    }

    /** Tries sentences of just so many words, the first ones first, until one is taken. */
    private boolean each(List<Integer> row, int length, boolean onlyUnfinished, Predicate<List<Integer>> taken) {
        if (row.size() == length) {
            return taken.test(row);
        }
        if (onlyUnfinished && !row.isEmpty() && finishingOf(row, knownByOther(now)) != null) {
            return false;
        }
        for (int w = 0; w < laid.words.size(); w++) {
            if (row.isEmpty() || laid.may[last(row)][w]) {
                row.add(w);
                if (each(row, length, onlyUnfinished, taken)) {
                    return true;
                }
                row.remove(row.size() - 1);
            }
        }
        return false;
    }

    private List<Integer> shortest(Predicate<List<Integer>> taken) {
        for (int length = 1; length <= 10; length++) {
            List<Integer> row = new ArrayList<>();
            if (each(row, length, true, taken)) {
                return row;
            }
        }
        return null;
    }

    int safe(int w, int k) {
        if (!isWord(w) || k < -1 || k > 9) {
            return BAD;
        }
        return told(shortest(row -> kind(last(row)) == 2 && row.contains(w)), k);
    }

    int best(int n, int k) {
        if (n < 1 || n > 10 || k < -2 || k > 9) {
            return BAD;
        }
        List<Integer> best = new ArrayList<>();
        for (int length = 1; length <= n; length++) {
            each(new ArrayList<>(), length, true, row -> {
                if (kind(last(row)) == 2 && (best.isEmpty() || worth(row) > worth(best))) {
                    best.clear();
                    best.addAll(row);
                }
                return false;
            });
        }
        if (best.isEmpty()) {
            return NONE;
        }
        return k == -1 ? worth(best) : k == -2 ? best.size() : told(best, k);
    }

    int lure(int w, int k) {
        if (!isWord(w) || k < -1 || k > 9) {
            return BAD;
        }
        return told(shortest(row -> {
            List<Integer> finishing = finishingOf(row, knownByOther(now));
            return finishing != null && finishing.contains(w);
        }), k);
    }

    int sitting(int w) {
        if (!isWord(w)) {
            return BAD;
        }
        int n = laid.words.size();
        int[] result = new int[n];
        for (int depth = 0; depth < 40; depth++) {
            int[] next = new int[n];
            for (int v = 0; v < n; v++) {
                boolean wins = false;
                boolean loses = true;
                for (int u = 0; u < n; u++) {
                    if (laid.may[v][u]) {
                        wins |= kind(u) == 2 || result[u] == 2;
                        loses &= kind(u) != 2 && result[u] == 1;
                    }
                }
                next[v] = wins ? 1 : loses ? 2 : 0;
            }
            result = next;
        }
        return result[w];
    }

    int ways(int n, int what) {
        if (n < 1 || n > 8 || what < 0 || what > 1) {
            return BAD;
        }
        int[] ways = new int[1];
        each(new ArrayList<>(), n, what == 1, row -> {
            ways[0] += kind(last(row)) == 2 ? 1 : 0;
            return false;
        });
        return ways[0];
    }

    // ---- what was seen

    int seen(int w, int could) {
        if (!isWord(w) || could < 0 || could > 1) {
            return BAD;
        }
        if (seen.size() == 8) {
            return FULL;
        }
        seen.add(new int[] {w, could});
        return seen.size();
    }

    int forget() {
        int n = seen.size();
        seen.clear();
        return n;
    }

    int guessed(int what) {
        if (what < 0 || what > 2) {
            return BAD;
        }
        int sets = 0;
        int all = -1;
        int any = 0;
        for (int bits = 0; bits < 1 << laid.words.size(); bits++) {
            TreeSet<Integer> set = new TreeSet<>();
            for (int w = 0; w < laid.words.size(); w++) {
                if ((bits >> w) % 2 == 1) {
                    set.add(w);
                }
            }
            boolean so = true;
            for (int[] s : seen) {
                so &= (finishingOf(s[0], false, set) != null) == (s[1] == 1);
            }
            if (so) {
                sets++;
                all &= bits;
                any |= bits;
            }
        }
        if (what == 0) {
            return sets;
        }
        return sets == 0 ? NONE : what == 1 ? all : any;
    }

    // ---- councils

    int council(int z, int n, int what) {
        if (z < 0 || z > 9999 || n < 1 || n > 60 || what < 0 || what > 2) {
            return BAD;
        }
        State s = now.copy();
        for (int time = 0; time < n; time++) {
            BigInteger x = BigInteger.valueOf(7919).multiply(BigInteger.valueOf(z))
                .add(BigInteger.valueOf(6151).multiply(BigInteger.valueOf(time))).add(BigInteger.ONE);
            int draw = x.multiply(x).mod(BigInteger.valueOf(65521)).intValue() / 2;
            int w = draw % laid.words.size();
            List<Integer> row = finishingOf(s.sentence, knownByOther(s));
            if (row != null && draw / 64 % 3 == 0) {
                doFinish(s, row);
            } else if (canEnd(s) && draw / 64 % 3 == 1) {
                doEnd(s);
            } else if (s.sentence.size() < 12 && fits(s, w)) {
                s.sentence.add(w);
                s.minute++;
            } else if (!s.sentence.isEmpty()) {
                s.sentence.clear();
                s.minute++;
            }
        }
        int[] answers = {s.chain, s.decrees[0] + s.decrees[1], s.gained[0] - s.gained[1] + 500};
        return answers[what];
    }

    // ---- kept

    int keep() {
        if (kept.size() == 2) {
            return FULL;
        }
        kept.addLast(now.copy());
        return kept.size();
    }

    int back() {
        if (kept.isEmpty()) {
            return NO;
        }
        now = kept.removeLast();
        past.clear();
        return kept.size();
    }

    int count(int what) {
        if (what < 0 || what > 9) {
            return BAD;
        }
        int[] answers = {laid.words.size(), now.minute, now.sentence.size(), now.decrees[0] + now.decrees[1], now.over,
            laid.longest, seen.size(), past.size(), kept.size(), text.length()};
        return answers[what];
    }
}
