/** A borough of two mayors with one chain, which goes over when the other finishes a sentence. */
public final class TwoMayors {
    public static final int BAD = -1, NO = -2, FULL = -3, NONE = -4;

    private static final int MOST_LETTERS = 200;
    private static final int MOST_WORDS = 10;
    private static final int MOST_SAID = 12;
    private static final int MOST_FINISHING = 4;
    private static final int MOST_BEGUN = 10;
    private static final int MOST_WAYS = 8;
    private static final int MOST_UNDONE = 8;
    private static final int MOST_SEEN = 8;
    private static final int MOST_KEPT = 2;
    private static final int MOST_DRAWN = 9999;
    private static final int MOST_TIMES = 60;
    private static final int MOST_SETS = 1 << MOST_WORDS;

    private static final int FIRST_SIGN = 32;
    private static final int LAST_SIGN = 126;

    private static final int PLAIN = 0;
    private static final int ADJECTIVE = 1;
    private static final int STOP = 2;
    private static final int PROVERB = 3;
    private static final int MOST_WORTH = 9;
    private static final int USUAL_FINISHING = 2;

    private static final int HOW_MANY = -1;
    private static final int HOW_MANY_OF_BEST = -2;
    private static final int NOT_SAFE = -1;
    private static final int EVEN_COUNCIL = 500;

    private static final String FIRST_TEXT =
        "w0,3;w0,1;w1,5;w2,2;w2,4;w3,1;w0,2;g0,1;g0,2;g1,3;g1,6;g2,3;g2,4;g5,3;g6,4;g6,0;g3,2;k0,3;k0,4;k1,3;k1,1;l2;c0;";

    private final Text text;
    private Borough borough;
    private Borough draft;
    private final Standing now;
    private final Pile undoable;
    private final Pile kept;
    private final Finisher finisher;
    private final Sentences sentences;
    private final Guesses guesses;
    private final Council assembly;

    public TwoMayors() {
        text = new Text();
        borough = new Borough();
        draft = new Borough();
        now = new Standing();
        undoable = new Pile(MOST_UNDONE);
        kept = new Pile(MOST_KEPT);
        finisher = new Finisher();
        sentences = new Sentences(finisher);
        guesses = new Guesses();
        assembly = new Council(finisher);
        for (int i = 0; i < FIRST_TEXT.length(); i++) {
            text.add(FIRST_TEXT.charAt(i));
        }
        layText();
        text.clear();
    }

    // ---- boroughs

    public int write(int letter) {
        if (letter < FIRST_SIGN || letter > LAST_SIGN) {
            return BAD;
        }
        return text.add(letter) ? text.length : FULL;
    }

    public int wipe() {
        int length = text.length;
        text.clear();
        return length;
    }

    public int fault() {
        return text.readInto(draft);
    }

    public int lay() {
        return layText();
    }

    public int word(int w, int what) {
        if (!borough.has(w)) {
            return BAD;
        }
        switch (what) {
            case 0: return borough.kindOf(w);
            case 1: return borough.worthOf(w);
            case 2: return borough.behindOf(w);
            case 3: return now.knowersOf(w);
            default: return BAD;
        }
    }

    public int mayor(int m, int what) {
        if (!isMayor(m)) {
            return BAD;
        }
        Mayor asked = now.mayorOf(m);
        switch (what) {
            case 0: return now.chain == m ? 1 : 0;
            case 1: return asked.decrees;
            case 2: return asked.gained;
            case 3: return asked.knows;
            default: return BAD;
        }
    }

    public int said(int k) {
        return k < 0 ? BAD : now.sentence.at(k);
    }

    // ---- acts

    public int say(int w) {
        if (!borough.has(w)) {
            return BAD;
        }
        if (!now.fits(borough, w)) {
            return NO;
        }
        if (now.sentence.size >= MOST_SAID) {
            return FULL;
        }
        undoable.put(now);
        now.speak(w);
        return now.sentence.size;
    }

    public int end() {
        if (!now.isEndable(borough)) {
            return NO;
        }
        undoable.put(now);
        return now.decree(borough);
    }

    public int finish() {
        findFinishing();
        if (finisher.row.size == 0) {
            return NO;
        }
        undoable.put(now);
        return now.passOver(borough, finisher.row);
    }

    public int drop() {
        int size = now.sentence.size;
        if (size == 0) {
            return NO;
        }
        undoable.put(now);
        now.letFall();
        return size;
    }

    public int learn(int m, int w) {
        if (!isMayor(m) || !borough.has(w)) {
            return BAD;
        }
        undoable.put(now);
        Mayor learner = now.mayorOf(m);
        learner.knows ^= bit(w);
        return (learner.knows & bit(w)) != 0 ? 1 : 0;
    }

    public int undo() {
        return undoable.takeInto(now) ? undoable.size : NO;
    }

    // ---- sentences

    public int finishing(int k) {
        if (k < HOW_MANY || k >= MOST_FINISHING) {
            return BAD;
        }
        findFinishing();
        return told(finisher.row, k);
    }

    public int safe(int w, int k) {
        if (!borough.has(w) || k < HOW_MANY || k >= MOST_BEGUN) {
            return BAD;
        }
        sentences.findSafe(borough, now, w);
        return told(sentences.found, k);
    }

    public int best(int n, int k) {
        if (n < 1 || n > MOST_BEGUN || k < HOW_MANY_OF_BEST || k >= MOST_BEGUN) {
            return BAD;
        }
        int worth = sentences.findBest(borough, now, n);
        if (sentences.found.size == 0) {
            return NONE;
        }
        if (k == HOW_MANY_OF_BEST) {
            return sentences.found.size;
        }
        return k == HOW_MANY ? worth : sentences.found.at(k);
    }

    public int lure(int w, int k) {
        if (!borough.has(w) || k < HOW_MANY || k >= MOST_BEGUN) {
            return BAD;
        }
        sentences.findLure(borough, now, w);
        return told(sentences.found, k);
    }

    public int sitting(int w) {
        return borough.has(w) ? sentences.winnerBehind(borough, w) : BAD;
    }

    public int ways(int n, int what) {
        if (n < 1 || n > MOST_WAYS || what < 0 || what > 1) {
            return BAD;
        }
        return sentences.countWays(borough, now, n, what == 1);
    }

    // ---- what was seen

    public int seen(int w, int could) {
        if (!borough.has(w) || could < 0 || could > 1) {
            return BAD;
        }
        return guesses.note(w, could == 1) ? guesses.size : FULL;
    }

    public int forget() {
        int size = guesses.size;
        guesses.clear();
        return size;
    }

    public int guessed(int what) {
        if (what < 0 || what > 2) {
            return BAD;
        }
        guesses.weigh(borough, finisher);
        if (what == 0) {
            return guesses.sets;
        }
        if (guesses.sets == 0) {
            return NONE;
        }
        return what == 1 ? guesses.ofAll : guesses.ofAny;
    }

    // ---- councils

    public int council(int z, int n, int what) {
        if (z < 0 || z > MOST_DRAWN || n < 1 || n > MOST_TIMES || what < 0 || what > 2) {
            return BAD;
        }
        Standing then = assembly.outcome(borough, now, z, n);
        switch (what) {
            case 0: return then.chain;
            case 1: return then.decreesOfBoth();
            default: return then.first.gained - then.second.gained + EVEN_COUNCIL;
        }
    }

    // ---- kept

    public int keep() {
        if (kept.size >= MOST_KEPT) {
            return FULL;
        }
        kept.put(now);
        return kept.size;
    }

    public int back() {
        if (!kept.takeInto(now)) {
            return NO;
        }
        undoable.clear();
        return kept.size;
    }

    public int count(int what) {
        switch (what) {
            case 0: return borough.words;
            case 1: return now.minute;
            case 2: return now.sentence.size;
            case 3: return now.decreesOfBoth();
            case 4: return now.passings;
            case 5: return borough.longest;
            case 6: return guesses.size;
            case 7: return undoable.size;
            case 8: return kept.size;
            case 9: return text.length;
            default: return BAD;
        }
    }

    private int layText() {
        if (text.readInto(draft) != NONE || draft.words == 0) {
            return NO;
        }
        Borough former = borough;
        borough = draft;
        draft = former;
        now.startIn(borough);
        undoable.clear();
        kept.clear();
        guesses.startAnew();
        return borough.words;
    }

    private void findFinishing() {
        finisher.find(borough, now.lastWord(), now.sayableByOther(borough));
    }

    private static int told(Row row, int k) {
        if (row.size == 0) {
            return NONE;
        }
        return k == HOW_MANY ? row.size : row.at(k);
    }

    private static boolean isMayor(int m) {
        return m == 0 || m == 1;
    }

    private static int bit(int w) {
        return w >= 0 && w < MOST_WORDS ? 1 << w : 0;
    }

    /** THE TEXT as it is written, and the reading of its items. */
    private static final class Text {
        private static final int SHORTEST_ITEM = 3;
        private static final int MOST_NUMBERS = 2;
        private static final int NOT_SO = -1;

        private final int[] letters = new int[MOST_LETTERS];
        private final int[] numbers = new int[MOST_NUMBERS];
        private int length;
        private int numbersRead;

        boolean add(int letter) {
            if (length < 0 || length >= letters.length) {
                return false;
            }
            letters[length] = letter;
            length++;
            return true;
        }

        void clear() {
            length = 0;
        }

        /** Answers the place of the first fault, or NONE; what stands ahead of it is in the borough then. */
        int readInto(Borough borough) {
            borough.clear();
            int place = 0;
            for (int items = 0; items <= MOST_LETTERS / SHORTEST_ITEM && place < length; items++) {
                int next = readItem(place);
                if (next == NOT_SO || !takeItem(borough, letterAt(place))) {
                    return place;
                }
                place = next;
            }
            return NONE;
        }

        private int readItem(int place) {
            int at = place + 1;
            numbersRead = 0;
            for (int i = 0; i < numbers.length; i++) {
                int figures = figuresAt(at);
                if (figures == 0) {
                    return NOT_SO;
                }
                numbers[i] = valueAt(at, figures);
                numbersRead = i + 1;
                at += figures;
                if (letterAt(at) == ';') {
                    return at + 1;
                }
                if (letterAt(at) != ',') {
                    return NOT_SO;
                }
                at++;
            }
            return NOT_SO;
        }

        private boolean takeItem(Borough borough, int letter) {
            if (numbersRead == 2) {
                return borough.takePair(letter, numbers[0], numbers[1]);
            }
            return borough.takeSingle(letter, numbers[0]);
        }

        private int figuresAt(int place) {
            if (!isFigure(letterAt(place))) {
                return 0;
            }
            return isFigure(letterAt(place + 1)) ? 2 : 1;
        }

        private int valueAt(int place, int figures) {
            int value = letterAt(place) - '0';
            return figures == 2 ? value * 10 + letterAt(place + 1) - '0' : value;
        }

        private static boolean isFigure(int letter) {
            return letter >= '0' && letter <= '9';
        }

        private int letterAt(int place) {
            return place >= 0 && place < length && place < letters.length ? letters[place] : NONE;
        }
    }

    /** What was laid: sets of words are bits, word 0 the lowest. */
    private static final class Borough {
        private final int[] kinds = new int[MOST_WORDS];
        private final int[] worths = new int[MOST_WORDS];
        private final int[] behind = new int[MOST_WORDS];
        private int words;
        private int adjectives;
        private int stops;
        private int proverbs;
        private int knownToFirst;
        private int knownToSecond;
        private int longest;
        private int chain;

        void clear() {
            words = 0;
            adjectives = 0;
            stops = 0;
            proverbs = 0;
            knownToFirst = 0;
            knownToSecond = 0;
            longest = USUAL_FINISHING;
            chain = 0;
        }

        boolean takePair(int letter, int a, int b) {
            switch (letter) {
                case 'w': return addWord(a, b);
                case 'g': return addBehind(a, b);
                case 'k': return addKnown(a, b);
                default: return false;
            }
        }

        boolean takeSingle(int letter, int a) {
            switch (letter) {
                case 'l': return setLongest(a);
                case 'c': return setChain(a);
                default: return false;
            }
        }

        private boolean addWord(int kind, int worth) {
            if (kind < PLAIN || kind > PROVERB || worth < 0 || worth > MOST_WORTH || words >= MOST_WORDS) {
                return false;
            }
            kinds[words] = kind;
            worths[words] = worth;
            behind[words] = 0;
            adjectives |= kind == ADJECTIVE ? bit(words) : 0;
            stops |= kind == STOP ? bit(words) : 0;
            proverbs |= kind == PROVERB ? bit(words) : 0;
            words++;
            return true;
        }

        private boolean addBehind(int one, int next) {
            if (!has(one) || !has(next)) {
                return false;
            }
            behind[one] |= bit(next);
            return true;
        }

        private boolean addKnown(int mayor, int w) {
            if (!isMayor(mayor) || !has(w)) {
                return false;
            }
            if (mayor == 0) {
                knownToFirst |= bit(w);
            } else {
                knownToSecond |= bit(w);
            }
            return true;
        }

        private boolean setLongest(int most) {
            if (most < 1 || most > MOST_FINISHING) {
                return false;
            }
            longest = most;
            return true;
        }

        private boolean setChain(int mayor) {
            if (!isMayor(mayor)) {
                return false;
            }
            chain = mayor;
            return true;
        }

        boolean has(int w) {
            return w >= 0 && w < words && w < MOST_WORDS;
        }

        int kindOf(int w) {
            return has(w) ? kinds[w] : NONE;
        }

        int worthOf(int w) {
            return has(w) ? worths[w] : 0;
        }

        int behindOf(int w) {
            return has(w) ? behind[w] : 0;
        }

        int allWords() {
            return (1 << words) - 1;
        }

        /** The words behind which at least one of these may come. */
        int aheadOf(int nexts) {
            int ahead = 0;
            for (int w = 0; w < words && w < MOST_WORDS; w++) {
                if ((behind[w] & nexts) != 0) {
                    ahead |= 1 << w;
                }
            }
            return ahead;
        }

        int firstOf(int set) {
            for (int w = 0; w < words; w++) {
                if ((set >> w & 1) != 0) {
                    return w;
                }
            }
            return NONE;
        }
    }

    /** Words one behind the other. */
    private static final class Row {
        private final int[] words = new int[MOST_SAID];
        private int size;

        void clear() {
            size = 0;
        }

        void add(int w) {
            if (size >= 0 && size < words.length) {
                words[size] = w;
                size++;
            }
        }

        int at(int k) {
            return k >= 0 && k < size && k < words.length ? words[k] : NONE;
        }

        boolean holds(int w) {
            for (int i = 0; i < size && i < words.length; i++) {
                if (words[i] == w) {
                    return true;
                }
            }
            return false;
        }

        int worthIn(Borough borough) {
            int worth = 0;
            for (int i = 0; i < size && i < words.length; i++) {
                worth += borough.worthOf(words[i]);
            }
            return worth;
        }

        void copyFrom(Row other) {
            clear();
            for (int i = 0; i < other.size; i++) {
                add(other.at(i));
            }
        }
    }

    /** What one mayor has and knows. */
    private static final class Mayor {
        private int decrees;
        private int gained;
        private int knows;

        void startWith(int known) {
            decrees = 0;
            gained = 0;
            knows = known;
        }

        void copyFrom(Mayor other) {
            decrees = other.decrees;
            gained = other.gained;
            knows = other.knows;
        }
    }

    /** All that acts change: what is undone and kept is a copy of this. */
    private static final class Standing {
        private final Row sentence = new Row();
        private final Mayor first = new Mayor();
        private final Mayor second = new Mayor();
        private int chain;
        private int minute;
        private int passings;

        void startIn(Borough borough) {
            sentence.clear();
            first.startWith(borough.knownToFirst);
            second.startWith(borough.knownToSecond);
            chain = borough.chain;
            minute = 0;
            passings = 0;
        }

        void copyFrom(Standing other) {
            sentence.copyFrom(other.sentence);
            first.copyFrom(other.first);
            second.copyFrom(other.second);
            chain = other.chain;
            minute = other.minute;
            passings = other.passings;
        }

        Mayor mayorOf(int m) {
            return m == 0 ? first : second;
        }

        Mayor otherMayor() {
            return mayorOf(1 - chain);
        }

        int knowersOf(int w) {
            return ((first.knows & bit(w)) != 0 ? 1 : 0) + ((second.knows & bit(w)) != 0 ? 2 : 0);
        }

        int decreesOfBoth() {
            return first.decrees + second.decrees;
        }

        int lastWord() {
            return sentence.at(sentence.size - 1);
        }

        boolean fits(Borough borough, int w) {
            return sentence.size == 0 || (borough.behindOf(lastWord()) & bit(w)) != 0;
        }

        boolean isEndable(Borough borough) {
            return borough.kindOf(lastWord()) == STOP;
        }

        int sayableByOther(Borough borough) {
            return borough.kindOf(sentence.at(0)) == PROVERB ? borough.allWords() : otherMayor().knows;
        }

        void speak(int w) {
            sentence.add(w);
            minute++;
        }

        void letFall() {
            sentence.clear();
            minute++;
        }

        /** Answers the worth of the sentence, which is a decree of the one who has the chain. */
        int decree(Borough borough) {
            return gain(mayorOf(chain), sentence.worthIn(borough));
        }

        /** Like a decree of the other, who has the chain then: his words may go beyond the sentence's room. */
        int passOver(Borough borough, Row finishing) {
            int worth = sentence.worthIn(borough) + finishing.worthIn(borough);
            minute += finishing.size;
            chain = 1 - chain;
            passings++;
            return gain(mayorOf(chain), worth);
        }

        private int gain(Mayor winner, int worth) {
            winner.decrees++;
            winner.gained += worth;
            sentence.clear();
            return worth;
        }
    }

    /** Standings of which the latest comes off first; one too many takes the room of the oldest. */
    private static final class Pile {
        private final Standing[] places;
        private int size;

        Pile(int most) {
            places = new Standing[Math.max(most, 1)];
            for (int i = 0; i < places.length; i++) {
                places[i] = new Standing();
            }
        }

        void clear() {
            size = 0;
        }

        void put(Standing standing) {
            if (size >= places.length) {
                giveOldestToNewest();
            }
            Standing place = placeAt(size);
            if (place != null) {
                place.copyFrom(standing);
                size++;
            }
        }

        boolean takeInto(Standing standing) {
            Standing place = placeAt(size - 1);
            if (place == null) {
                return false;
            }
            standing.copyFrom(place);
            size--;
            return true;
        }

        private Standing placeAt(int i) {
            return i >= 0 && i < places.length ? places[i] : null;
        }

        private void giveOldestToNewest() {
            Standing oldest = placeAt(0);
            for (int i = 1; i < places.length; i++) {
                places[i - 1] = places[i];
            }
            size = places.length - 1;
            if (size >= 0 && oldest != null) {
                places[size] = oldest;
            }
        }
    }

    /** Finishings by one who may say only the words of a set. */
    private static final class Finisher {
        private final Row row = new Row();
        /** At i: the words with which i + 1 words can start that come to a stop. */
        private final int[] starts = new int[MOST_FINISHING];

        private void fillStarts(Borough borough, int sayable) {
            int start = borough.stops & sayable;
            for (int i = 0; i < starts.length; i++) {
                starts[i] = i < borough.longest ? start : 0;
                start = borough.aheadOf(start) & sayable;
            }
        }

        /** The words behind which a sentence could be finished. */
        int couldBehind(Borough borough, int sayable) {
            int start = borough.stops & sayable;
            int could = 0;
            for (int i = 0; i < borough.longest && start != 0; i++) {
                int ahead = borough.aheadOf(start);
                could |= ahead;
                start = ahead & sayable;
            }
            return could & ~borough.adjectives;
        }

        /** The row is empty then if there is none. */
        void find(Borough borough, int last, int sayable) {
            row.clear();
            if (!borough.has(last) || borough.kindOf(last) == ADJECTIVE) {
                return;
            }
            fillStarts(borough, sayable);
            int w = last;
            for (int i = fewestMore(borough.behindOf(last)); i >= 0 && i < starts.length; i--) {
                w = borough.firstOf(borough.behindOf(w) & starts[i]);
                row.add(w);
            }
        }

        /** How many words have to follow the one that is next, or -1 if no finishing starts with one of these. */
        private int fewestMore(int nexts) {
            for (int i = 0; i < starts.length; i++) {
                if ((nexts & starts[i]) != 0) {
                    return i;
                }
            }
            return -1;
        }
    }

    /** Sentences begun anew that open alike: all with a proverb, or all with none. */
    private static final class Opening {
        private int firsts;
        private int sayable;
        private int dangers;
        /** At i: the words that, as the next one, lead to what is sought with i words more. */
        private final int[] leading = new int[MOST_BEGUN];
        /** The same, when the word that is wanted has been said already. */
        private final int[] leadingOnceSaid = new int[MOST_BEGUN];
        /** At i, w: how much, or how many, behind w as the next one with i words more. */
        private final int[][] table = new int[MOST_BEGUN][MOST_WORDS];

        void prepare(Borough borough, Finisher finisher, int openers, int words) {
            firsts = openers;
            sayable = words;
            dangers = finisher.couldBehind(borough, words);
        }

        int firstsWith(int more) {
            return leadingWith(more, false) & firsts;
        }

        int leadingWith(int more, boolean saidAlready) {
            if (more < 0 || more >= MOST_BEGUN) {
                return 0;
            }
            return saidAlready ? leadingOnceSaid[more] : leading[more];
        }

        int tableAt(int more, int w) {
            return more >= 0 && more < MOST_BEGUN && w >= 0 && w < MOST_WORDS ? table[more][w] : NOT_SAFE;
        }

        void seekSafe(Borough borough, int wanted) {
            leadingOnceSaid[0] = borough.stops;
            leading[0] = borough.stops & bit(wanted);
            for (int i = 1; i < MOST_BEGUN; i++) {
                leadingOnceSaid[i] = borough.aheadOf(leadingOnceSaid[i - 1]) & ~dangers;
                int later = borough.aheadOf(leading[i - 1]) & ~dangers & ~bit(wanted);
                leading[i] = leadingOnceSaid[i] & bit(wanted) | later;
            }
        }

        void seekLure(Borough borough, Finisher finisher, int wanted) {
            leading[0] = luresTo(borough, finisher, wanted);
            for (int i = 1; i < MOST_BEGUN; i++) {
                leading[i] = borough.aheadOf(leading[i - 1]) & ~dangers;
            }
        }

        private int luresTo(Borough borough, Finisher finisher, int wanted) {
            int lures = 0;
            for (int w = 0; w < borough.words; w++) {
                if ((dangers & bit(w)) != 0) {
                    finisher.find(borough, w, sayable);
                    lures |= finisher.row.holds(wanted) ? bit(w) : 0;
                }
            }
            return lures;
        }

        void tableWorths(Borough borough, int n) {
            for (int w = 0; w < borough.words && w < MOST_WORDS; w++) {
                table[0][w] = borough.kindOf(w) == STOP ? borough.worthOf(w) : NOT_SAFE;
            }
            for (int i = 1; i < n && i < MOST_BEGUN; i++) {
                for (int w = 0; w < borough.words && w < MOST_WORDS; w++) {
                    int most = (dangers & bit(w)) != 0 ? NOT_SAFE : mostBehind(borough, w, i - 1);
                    table[i][w] = most == NOT_SAFE ? NOT_SAFE : most + borough.worthOf(w);
                }
            }
        }

        private int mostBehind(Borough borough, int w, int more) {
            int nexts = borough.behindOf(w);
            int most = NOT_SAFE;
            for (int next = 0; next < borough.words; next++) {
                if ((nexts & bit(next)) != 0) {
                    most = Math.max(most, tableAt(more, next));
                }
            }
            return most;
        }

        void tableWays(Borough borough, int n, boolean safeOnly) {
            int shunned = safeOnly ? dangers : 0;
            for (int w = 0; w < borough.words && w < MOST_WORDS; w++) {
                table[0][w] = borough.kindOf(w) == STOP ? 1 : 0;
            }
            for (int i = 1; i < n && i < MOST_BEGUN; i++) {
                for (int w = 0; w < borough.words && w < MOST_WORDS; w++) {
                    table[i][w] = (shunned & bit(w)) != 0 ? 0 : sumBehind(borough, w, i - 1);
                }
            }
        }

        private int sumBehind(Borough borough, int w, int more) {
            int nexts = borough.behindOf(w);
            int sum = 0;
            for (int next = 0; next < borough.words; next++) {
                if ((nexts & bit(next)) != 0) {
                    sum += tableAt(more, next);
                }
            }
            return sum;
        }
    }

    /** What is sought among sentences that the one who speaks could begin anew. */
    private static final class Sentences {
        private final Row found = new Row();
        private final Opening proverb = new Opening();
        private final Opening other = new Opening();
        private final Finisher finisher;

        Sentences(Finisher finisher) {
            this.finisher = finisher;
        }

        private void prepare(Borough borough, Standing now) {
            found.clear();
            proverb.prepare(borough, finisher, borough.proverbs, borough.allWords());
            other.prepare(borough, finisher, borough.allWords() & ~borough.proverbs, now.otherMayor().knows);
        }

        private Opening openingBy(Borough borough, int w) {
            return borough.kindOf(w) == PROVERB ? proverb : other;
        }

        void findSafe(Borough borough, Standing now, int wanted) {
            prepare(borough, now);
            proverb.seekSafe(borough, wanted);
            other.seekSafe(borough, wanted);
            followShortest(borough, wanted);
        }

        void findLure(Borough borough, Standing now, int wanted) {
            prepare(borough, now);
            proverb.seekLure(borough, finisher, wanted);
            other.seekLure(borough, finisher, wanted);
            // The beginning itself need not say the word: so none is wanted on the way.
            followShortest(borough, NONE);
        }

        private void followShortest(Borough borough, int wanted) {
            for (int more = 0; more < MOST_BEGUN; more++) {
                int first = borough.firstOf(proverb.firstsWith(more) | other.firstsWith(more));
                if (first != NONE) {
                    follow(borough, first, more, wanted);
                    return;
                }
            }
        }

        private void follow(Borough borough, int first, int more, int wanted) {
            Opening opening = openingBy(borough, first);
            int w = first;
            found.add(w);
            boolean saidAlready = w == wanted;
            for (int left = more - 1; left >= 0; left--) {
                w = borough.firstOf(borough.behindOf(w) & opening.leadingWith(left, saidAlready));
                found.add(w);
                saidAlready = saidAlready || w == wanted;
            }
        }

        /** Answers the worth; the row is empty then if there is none. */
        int findBest(Borough borough, Standing now, int n) {
            prepare(borough, now);
            proverb.tableWorths(borough, n);
            other.tableWorths(borough, n);
            int most = NOT_SAFE;
            int first = NONE;
            int moreThen = 0;
            for (int more = 0; more < n; more++) {
                for (int w = 0; w < borough.words; w++) {
                    int worth = openingBy(borough, w).tableAt(more, w);
                    if (worth > most) {
                        most = worth;
                        first = w;
                        moreThen = more;
                    }
                }
            }
            followWorth(borough, first, moreThen);
            return most;
        }

        private void followWorth(Borough borough, int first, int more) {
            if (!borough.has(first)) {
                return;
            }
            Opening opening = openingBy(borough, first);
            int w = first;
            found.add(w);
            for (int left = more - 1; left >= 0; left--) {
                int rest = opening.tableAt(left + 1, w) - borough.worthOf(w);
                w = firstBehindWith(borough, opening, w, left, rest);
                found.add(w);
            }
        }

        private int firstBehindWith(Borough borough, Opening opening, int w, int left, int worth) {
            for (int next = 0; next < borough.words; next++) {
                if ((borough.behindOf(w) & bit(next)) != 0 && opening.tableAt(left, next) == worth) {
                    return next;
                }
            }
            return NONE;
        }

        int countWays(Borough borough, Standing now, int n, boolean safeOnly) {
            prepare(borough, now);
            proverb.tableWays(borough, n, safeOnly);
            other.tableWays(borough, n, safeOnly);
            int ways = 0;
            for (int w = 0; w < borough.words; w++) {
                ways += openingBy(borough, w).tableAt(n - 1, w);
            }
            return ways;
        }

        /** Answers 1 if who is to say the next one wins, 2 if that one loses, 0 if it goes on for ever. */
        int winnerBehind(Borough borough, int w) {
            int won = borough.aheadOf(borough.stops);
            int lost = 0;
            // Each round settles a word more, or none is settled any more.
            for (int round = 0; round < MOST_WORDS; round++) {
                lost = borough.allWords() & ~won & ~borough.aheadOf(borough.allWords() & ~won);
                won |= borough.aheadOf(lost);
            }
            if ((won & bit(w)) != 0) {
                return 1;
            }
            return (lost & bit(w)) != 0 ? 2 : 0;
        }
    }

    /** What was seen of the other, and the sets of words that go with it. */
    private static final class Guesses {
        /** For each set of words: the words behind which one who knows just these could finish. */
        private final int[] couldBySet = new int[MOST_SETS];
        private boolean tabled;
        private int size;
        private int could;
        private int couldNot;
        private int sets;
        private int ofAll;
        private int ofAny;

        void startAnew() {
            tabled = false;
            clear();
        }

        void clear() {
            size = 0;
            could = 0;
            couldNot = 0;
        }

        boolean note(int w, boolean finishable) {
            if (size >= MOST_SEEN) {
                return false;
            }
            could |= finishable ? bit(w) : 0;
            couldNot |= finishable ? 0 : bit(w);
            size++;
            return true;
        }

        void weigh(Borough borough, Finisher finisher) {
            tableOnce(borough, finisher);
            sets = 0;
            ofAll = borough.allWords();
            ofAny = 0;
            for (int set = 0; set <= borough.allWords() && set < MOST_SETS; set++) {
                if ((couldBySet[set] & (could | couldNot)) == could && (could & couldNot) == 0) {
                    sets++;
                    ofAll &= set;
                    ofAny |= set;
                }
            }
        }

        /** The table is dear and holds until another borough is laid. */
        private void tableOnce(Borough borough, Finisher finisher) {
            if (tabled) {
                return;
            }
            for (int set = 0; set <= borough.allWords() && set < MOST_SETS; set++) {
                couldBySet[set] = finisher.couldBehind(borough, set);
            }
            tabled = true;
        }
    }

    /** A sitting by draws, played on a copy: nothing of it stays. */
    private static final class Council {
        private static final long BY_Z = 7919;
        private static final long BY_TIME = 6151;
        private static final long PRIME = 65521;

        private final Standing standing = new Standing();
        private final Finisher finisher;

        Council(Finisher finisher) {
            this.finisher = finisher;
        }

        Standing outcome(Borough borough, Standing now, int z, int times) {
            standing.copyFrom(now);
            for (int time = 0; time < times; time++) {
                step(borough, drawOf(z, time));
            }
            return standing;
        }

        private static int drawOf(int z, int time) {
            long x = BY_Z * z + BY_TIME * time + 1;
            return (int) (x * x % PRIME / 2);
        }

        private void step(Borough borough, int draw) {
            int turn = draw / 64 % 3;
            if (turn == 0 && finishes(borough)) {
                return;
            }
            if (turn == 1 && standing.isEndable(borough)) {
                standing.decree(borough);
                return;
            }
            int w = borough.words > 0 ? draw % borough.words : NONE;
            if (borough.has(w) && standing.fits(borough, w) && standing.sentence.size < MOST_SAID) {
                standing.speak(w);
            } else if (standing.sentence.size > 0) {
                standing.letFall();
            }
        }

        private boolean finishes(Borough borough) {
            finisher.find(borough, standing.lastWord(), standing.sayableByOther(borough));
            if (finisher.row.size == 0) {
                return false;
            }
            standing.passOver(borough, finisher.row);
            return true;
        }
    }
}
