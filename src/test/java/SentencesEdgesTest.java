/** Boundary cases of sentences, guesses and councils: chapters 3 and 4 of the document and promises 15 to 24, sentence by sentence. */
public final class SentencesEdgesTest {
    private static final int BAD = Edge.BAD, FULL = Edge.FULL, NONE = Edge.NONE;
    /** A chain of ten words, each worth its number, the last one a stop. */
    private static final String TO_A_STOP = Boroughs.TEN_PLAIN.replace("w0,9;", "w2,9;")
        + "g0,1;g1,2;g2,3;g3,4;g4,5;g5,6;g6,7;g7,8;g8,9;";
    private static final String RING = "w2,9;g0,0;";

    private SentencesEdgesTest() {
    }

    public static void main(String[] args) {
        chapterThree();
        chapterFour();
        promisesOfSentences();
        promisesOfGuesses();
        Check.close();
    }

    private static void chapterThree() {
        Edge.sentence("The FINISHING is that of fewest WORDS, of several the first (by the first WORD, then the second, ..).",
            SentencesEdgesTest::firstOfFewest);
        Edge.sentence("Of sentences of 1 to 10 WORDS begun anew by the one who SPEAKS, as things stand now.",
            SentencesEdgesTest::oneToTen);
        Edge.sentence("One is SAFE, if the last WORD is a STOP and behind no other one of its WORDS the other MAYOR could FINISH it.",
            SentencesEdgesTest::behindNoOther);
        Edge.sentence("SAFE for a WORD: that SAFE one of fewest WORDS that has this WORD, of several the first: how many; the k-th; none.",
            SentencesEdgesTest::safeForWord);
        Edge.sentence("BEST for n (1 to 10): of SAFE ones of n WORDS or fewer that of most WORTH, of several that of fewest WORDS, "
            + "then the first: how much; how many; the k-th; none.", SentencesEdgesTest::bestForMost);
        Edge.sentence("LURE for a WORD: the fewest WORDS begun with, of several the first, behind the last of which, but not ahead, "
            + "the other one could FINISH, and would say this WORD by that: how many; the k-th; none.", SentencesEdgesTest::lureForWord);
        Edge.sentence("who says a STOP WINS, who can say none loses: 1 if who is to say the next one WINS, however the other one plays, "
            + "2 if that one loses so, 0 else.", SentencesEdgesTest::winsOrLoses);
        Edge.sentence("WAYS of n (1 to 8) WORDS: how many there are that end with a STOP; how many of them are SAFE.",
            SentencesEdgesTest::oneToEight);
    }

    private static void chapterFour() {
        Edge.sentence("SEEN (8 at most) is that the other MAYOR, were WORD w said last (no PROVERB first), could FINISH, or not (1, 0).",
            SentencesEdgesTest::eightSeen);
        Edge.sentence("GUESSED: of all sets of WORDS that he may KNOW those by which all that is SEEN would be so: how many; "
            + "WORDS of all of them (bits); of any; none.", SentencesEdgesTest::setsOfWords);
        Edge.sentence("A COUNCIL by z (0 to 9999) of n (1 to 60) times from now on", SentencesEdgesTest::drawsAndTimes);
        Edge.sentence("if the other can FINISH, and (DRAW by 64, cut) modulo 3 is 0, he does; else, if the last WORD is a STOP, "
            + "and (DRAW by 64, cut) modulo 3 is 1, THE SENTENCE is ENDED; else WORD DRAW modulo as many is said, if it can be; "
            + "else it is DROPPED, if it has a WORD", SentencesEdgesTest::stepByStep);
        Edge.sentence("DRAW being ((x times x) modulo 65521) by 2, cut, x 7919 z, 6151 (the time, 0 first) and 1 together",
            SentencesEdgesTest::draws);
        Edge.sentence("who has the CHAIN then; DECREES of both together in all; what MAYOR 0 has GAINED in all less what 1 has, and 500.",
            SentencesEdgesTest::inAll);
    }

    private static void promisesOfSentences() {
        Edge.sentence("The FINISHING as things stand: how many WORDS (k = -1), the k-th (0 to 3; NONE: there are not so many). "
            + "NONE: he can not; BAD.", SentencesEdgesTest::finishing);
        Edge.sentence("SAFE for a WORD: how many (k = -1), the k-th (0 to 9; NONE: there are not so many). NONE; BAD.",
            SentencesEdgesTest::safe);
        Edge.sentence("BEST: how much (k = -1), how many WORDS (-2), the k-th (0 to 9; NONE). NONE; BAD.", SentencesEdgesTest::best);
        Edge.sentence("LURE: how many (k = -1), the k-th (0 to 9; NONE: there are not so many). NONE; BAD.", SentencesEdgesTest::lure);
        Edge.sentence("`int sitting(int w)`: SITTING. BAD.", SentencesEdgesTest::sitting);
        Edge.sentence("WAYS: all (what = 0), SAFE ones (1). BAD.", SentencesEdgesTest::ways);
    }

    private static void promisesOfGuesses() {
        Edge.sentence("`int seen(int w, int could)`: SEEN: how many. BAD; FULL.", SentencesEdgesTest::seen);
        Edge.sentence("Nothing is SEEN: how many were.", SentencesEdgesTest::forget);
        Edge.sentence("GUESSED: how many (what = 0), WORDS of all (1), of any (2). NONE (of 1, 2); BAD.", SentencesEdgesTest::guessed);
        Edge.sentence("A COUNCIL: the CHAIN (what = 0), DECREES (1), GAINED (2). BAD.", SentencesEdgesTest::council);
    }

    /** A call that tells a row of words by k. */
    private interface Told {
        int by(TwoMayors x, int k);
    }

    private static void row(String name, Story story, Told told, int most, int... words) {
        TwoMayors x = story.play();
        Edge.due(name + ": how many", told.by(x, -1), words.length == 0 ? NONE : words.length);
        for (int k = 0; k < most; k++) {
            Edge.due(name + ": " + k, told.by(x, k), k < words.length ? words[k] : NONE);
        }
    }

    private static void finishingRow(String name, Story story, int... words) {
        row(name, story, (x, k) -> x.finishing(k), 4, words);
    }

    private static void safeRow(String name, Story story, int w, int... words) {
        row("safe(" + w + "), " + name, story, (x, k) -> x.safe(w, k), 10, words);
    }

    private static void lureRow(String name, Story story, int w, int... words) {
        row("lure(" + w + "), " + name, story, (x, k) -> x.lure(w, k), 10, words);
    }

    private static void bestRow(String name, Story story, int n, int worth, int... words) {
        row("best(" + n + "), " + name, story, (x, k) -> x.best(n, k == -1 ? -2 : k), 10, words);
        Edge.due("best(" + n + ", -1), " + name, story.play().best(n, -1), words.length == 0 ? NONE : worth);
    }

    private static void firstOfFewest() {
        String known = "k1,0;k1,1;k1,2;k1,3;k1,4;k1,5;l4;";
        finishingRow("fewest, though not first", Story.of("w0,0;w0,0;w2,0;w2,0;w2,0;w2,0;g0,1;g1,2;g0,5;" + known).say(0), 5);
        finishingRow("the first of one", Story.of("w0,0;w2,0;w2,0;w2,0;w2,0;w2,0;g0,5;g0,3;g0,4;" + known).say(0), 3);
        finishingRow("by the first word", Story.of("w0,0;w0,0;w0,0;w2,0;w2,0;w2,0;g0,2;g0,1;g1,5;g2,3;" + known).say(0), 1, 5);
        finishingRow("then the second", Story.of("w0,0;w0,0;w2,0;w2,0;w2,0;w2,0;g0,1;g1,5;g1,4;g1,3;" + known).say(0), 1, 3);
        finishingRow("a first word that leads too far", Story.of("w0,0;w0,0;w0,0;w0,0;w2,0;w2,0;g0,1;g1,3;g3,4;g0,2;g2,5;" + known).say(0), 2, 5);
        finishingRow("the same word twice", Story.of("w0,0;w2,0;g0,0;k1,0;k1,1;l4;").say(0));
        finishingRow("back to the last word", Story.of("w3,0;w0,0;w2,0;g0,1;g1,0;g0,2;l4;").say(0, 1), 0, 2);
    }

    private static void oneToTen() {
        safeRow("one word", Story.of("w2,5;"), 0, 0);
        safeRow("ten words", Story.of(TO_A_STOP), 0, 0, 1, 2, 3, 4, 5, 6, 7, 8, 9);
        // A proverb that comes first lets the other finish: so the word ahead of it comes first, and then twice.
        String tenTold = "w3,0;w0,1;w0,1;w0,1;w0,1;w0,1;w0,1;w0,1;w2,1;g0,1;g1,2;g2,3;g3,4;g4,5;g5,6;g6,7;g7,8;g7,0;l1;";
        safeRow("ten words, one twice", Story.of(tenTold), 0, 7, 0, 1, 2, 3, 4, 5, 6, 7, 8);
        String elevenTold = "w3,0;w0,1;w0,1;w0,1;w0,1;w0,1;w0,1;w0,1;w0,1;w2,1;g0,1;g1,2;g2,3;g3,4;g4,5;g5,6;g6,7;g7,8;g8,9;g8,0;l1;";
        safeRow("eleven words would be", Story.of(elevenTold), 0);
        safeRow("the words behind it", Story.of(elevenTold), 1, 1, 2, 3, 4, 5, 6, 7, 8, 9);
        begunAnew();
        asThingsStand();
    }

    private static void begunAnew() {
        Story empty = Story.of("w2,9;w0,1;w2,3;g0,0;g0,1;g1,2;k1,2;");
        Story begun = empty.say(0, 0, 0, 0, 0, 0, 0, 0, 0, 0, 0, 0);
        for (int w = 0; w < 3; w++) {
            for (int k = -1; k < 10; k++) {
                Edge.due("safe begun anew", begun.play().safe(w, k), empty.play().safe(w, k));
                Edge.due("lure begun anew", begun.play().lure(w, k), empty.play().lure(w, k));
                Edge.due("best begun anew", begun.play().best(10, k), empty.play().best(10, k));
            }
        }
        for (int n = 1; n <= 8; n++) {
            Edge.due("ways begun anew", begun.play().ways(n, 1), empty.play().ways(n, 1));
        }
        bestRow("begun anew behind 12", begun, 10, 90, 0, 0, 0, 0, 0, 0, 0, 0, 0, 0);
        lureRow("begun anew behind 12", begun, 2, 1);
    }

    private static void asThingsStand() {
        Story chain0 = Story.of("w0,1;w2,1;g0,1;k1,1;");
        safeRow("the other one KNOWS 1", chain0, 0);
        lureRow("the other one KNOWS 1", chain0, 1, 0);
        Edge.due("ways(2, 1): the other one KNOWS 1", chain0.play().ways(2, 1), 0);
        bestRow("the other one KNOWS 1", chain0, 10, 1, 1);
        Story over = chain0.say(0).finish();
        safeRow("the chain went over", over, 0, 0, 1);
        lureRow("the chain went over", over, 1);
        Edge.due("ways(2, 1): the chain went over", over.play().ways(2, 1), 1);
        bestRow("the chain went over", over, 10, 2, 0, 1);
        Story forgotten = chain0.learn(1, 1);
        safeRow("forgotten", forgotten, 0, 0, 1);
        lureRow("forgotten", forgotten, 1);
        safeRow("undone", forgotten.undo(), 0);
        lureRow("undone", forgotten.undo(), 1, 0);
        safeRow("kept and back", chain0.keep().learn(1, 1).back(), 0);
    }

    private static void behindNoOther() {
        Story ring = Story.of(RING + "k1,0;");
        safeRow("behind the last one he could", ring, 0, 0);
        bestRow("behind the first of two he could", ring, 10, 9, 0);
        for (int n = 1; n <= 8; n++) {
            Edge.due("ways(" + n + ", 1)", ring.play().ways(n, 1), n == 1 ? 1 : 0);
            Edge.due("ways(" + n + ", 0)", ring.play().ways(n, 0), 1);
        }
        safeRow("the last WORD is no STOP", Story.of("w0,0;w1,0;w3,0;g0,1;g1,2;g2,0;"), 0);
        // An adjective keeps him from finishing, though he knows what comes next.
        safeRow("an adjective", Story.of("w1,0;w2,0;g0,1;k1,1;"), 0, 0, 1);
        safeRow("a plain word", Story.of("w0,0;w2,0;g0,1;k1,1;"), 0);
        safeRow("a stop behind which he could", Story.of("w2,0;w2,0;g0,1;k1,1;"), 1, 1);
        Edge.due("ways(2, 1)", Story.of("w2,0;w2,0;g0,1;k1,1;").play().ways(2, 1), 0);
        safeRow("a proverb first", Story.of("w3,0;w2,0;g0,1;"), 0);
        safeRow("a proverb, not first", Story.of("w3,0;w2,0;w0,0;g2,0;g0,1;l1;"), 0, 2, 0, 1);
        safeRow("a proverb behind a proverb", Story.of("w3,0;w2,0;w3,0;g2,0;g0,1;l1;"), 0);
        safeRow("too far for a proverb", Story.of("w3,0;w1,0;w2,0;g0,1;g1,2;l1;"), 0, 0, 1, 2);
        safeRow("not too far for a proverb", Story.of("w3,0;w1,0;w2,0;g0,1;g1,2;l2;"), 0);
        for (int most = 1; most <= 4; most++) {
            Story way = Story.of("w0,1;w1,1;w1,1;w1,1;w2,1;g0,1;g1,2;g2,3;g3,4;k1,1;k1,2;k1,3;k1,4;l" + most + ";");
            if (most < 4) {
                safeRow("further than l" + most, way, 0, 0, 1, 2, 3, 4);
            } else {
                safeRow("as far as l4", way, 0);
            }
        }
    }

    private static void safeForWord() {
        safeRow("fewest, though not first", Story.of("w0,0;w0,0;w2,0;g0,1;g1,2;g0,2;"), 0, 0, 2);
        safeRow("the first of several", Story.of("w0,0;w2,0;w2,0;g0,2;g0,1;"), 0, 0, 1);
        safeRow("the word itself is a stop", Story.of("w0,0;w2,0;g0,1;"), 1, 1);
        safeRow("the word in the midst", Story.of("w0,0;w0,0;w2,0;g0,1;g1,2;k1,2;"), 1);
        safeRow("first among those ahead of it", Story.of("w0,0;w0,0;w3,0;w2,0;g1,2;g0,2;g2,3;l1;"), 2, 0, 2, 3);
        // The word may come first, in the midst or last: what counts is how many words there are.
        safeRow("the word last, not first", Story.of("w2,0;w0,0;w2,0;g2,1;g1,0;"), 2, 2);
        safeRow("none: it leads to no stop", Story.of("w0,0;w2,0;g1,0;"), 0);
        safeRow("none: no stop at all", Story.of("w0,0;g0,0;"), 0);
        safeRow("none: each way can be finished", Story.of("w0,0;w2,0;w2,0;g0,1;g0,2;k1,2;"), 0);
    }

    private static void bestForMost() {
        Story ten = Story.of(TO_A_STOP);
        for (int n = 1; n <= 10; n++) {
            int[] words = new int[n];
            int worth = 0;
            for (int k = 0; k < n; k++) {
                words[k] = 10 - n + k;
                worth += words[k];
            }
            // The first word is worth nothing: nine words are as good as ten, and fewer.
            if (n < 10) {
                bestRow("a chain", ten, n, worth, words);
            } else {
                bestRow("a chain", ten, n, worth, 1, 2, 3, 4, 5, 6, 7, 8, 9);
            }
            Edge.due("a ring, how much", Story.of(RING).play().best(n, -1), 9 * n);
            Edge.due("a ring, how many", Story.of(RING).play().best(n, -2), n);
        }
        bestRow("no WORTH at all", Story.of("w2,0;w2,0;g0,1;g1,0;g0,0;"), 10, 0, 0);
        bestRow("fewest WORDS", Story.of("w0,5;w2,4;w2,9;g0,1;"), 10, 9, 2);
        bestRow("then the first", Story.of("w2,3;w2,4;w2,4;"), 10, 4, 1);
        bestRow("then the first, by the first word", Story.of("w0,2;w0,1;w2,4;w2,3;g0,3;g1,2;"), 10, 5, 0, 3);
        bestRow("then the first, by the second word", Story.of("w0,9;w0,1;w0,2;w2,2;w2,1;g0,2;g0,1;g1,3;g2,4;"), 10, 12, 0, 1, 3);
        bestRow("the second word is not the first that may be", Story.of("w0,9;w2,1;w2,5;g0,1;g0,2;"), 10, 14, 0, 2);
        bestRow("one of the same WORTH may not come BEHIND", Story.of("w0,9;w2,5;w2,5;g0,2;"), 10, 14, 0, 2);
        bestRow("less WORTH, but SAFE", Story.of("w0,9;w2,1;w2,0;g0,1;g0,2;k1,2;"), 10, 1, 1);
        bestRow("none", Story.of("w0,9;w1,9;w3,9;g0,1;g1,2;g2,0;"), 10, 0);
        bestRow("more WORTH with a word more", Story.of("w0,1;w2,5;g0,1;"), 1, 5, 1);
        bestRow("more WORTH with a word more", Story.of("w0,1;w2,5;g0,1;"), 2, 6, 0, 1);
        bestRow("no more WORTH with a word more", Story.of("w0,0;w2,5;g0,1;"), 2, 5, 1);
    }

    private static void lureForWord() {
        lureRow("one word", Story.of("w0,0;w2,0;g0,1;k1,1;"), 1, 0);
        lureRow("a stop behind itself", Story.of(RING + "k1,0;"), 0, 0);
        // He knows none of the words: by a proverb alone he can be lured, here at the end of a long way.
        String far = "w3,0;w1,0;w2,0;w0,0;w0,0;w0,0;w0,0;w0,0;w0,0;w0,0;g0,1;g1,2;g2,3;g3,4;g4,5;g5,6;g6,7;g7,8;g8,9;g9,2;l1;";
        lureRow("ten words", Story.of(far), 2, 0, 1, 2, 3, 4, 5, 6, 7, 8, 9);
        String ahead = far.replace("g9,2;", "g9,2;g5,2;");
        lureRow("ten words, but ahead of it", Story.of(ahead), 2, 0, 1, 2, 3, 4, 5);
        lureRow("he could ahead of the last one", Story.of("w3,0;w0,0;w0,0;w2,0;w2,0;g0,1;g1,2;g1,3;g2,4;l1;"), 4);
        lureRow("he could, but would say another", Story.of("w0,0;w2,0;w2,0;g0,1;g0,2;k1,1;k1,2;"), 2);
        lureRow("he would say it first", Story.of("w0,0;w2,0;w2,0;g0,1;g0,2;k1,1;k1,2;"), 1, 0);
        lureRow("he would say it on the way", Story.of("w0,0;w0,0;w2,0;g0,1;g1,2;k1,1;k1,2;"), 1, 0);
        lureRow("an adjective on the way", Story.of("w0,0;w1,0;w2,0;g0,1;g1,2;k1,1;k1,2;"), 1, 0);
        lureRow("the word that was begun with is not his", Story.of("w0,0;w2,0;g0,1;k1,1;k1,0;"), 0);
        lureRow("fewest, though not first", Story.of("w0,0;w0,0;w2,0;g0,1;g1,2;k1,2;l1;"), 2, 1);
        lureRow("the first of several", Story.of("w0,0;w0,0;w2,0;g1,2;g0,2;k1,2;l1;"), 2, 0);
        lureRow("the first of several, by the second", Story.of("w3,0;w0,0;w0,0;w2,0;g0,2;g0,1;g2,3;g1,3;l1;"), 3, 0, 1);
        lureRow("behind an adjective he can not", Story.of("w1,0;w2,0;g0,1;k1,1;"), 1);
        lureRow("nothing is BEHIND", Story.of("w2,0;k1,0;"), 0);
        lureRow("further than L", Story.of("w0,0;w1,0;w2,0;g0,1;g1,2;k1,1;k1,2;l1;"), 2);
        lureRow("as far as L", Story.of("w0,0;w1,0;w2,0;g0,1;g1,2;k1,1;k1,2;l2;"), 2, 0);
    }

    private static void sittings(String name, String text, int... wanted) {
        TwoMayors x = Story.of(text).play();
        for (int w = 0; w < wanted.length; w++) {
            Edge.due("sitting(" + w + "), " + name, x.sitting(w), wanted[w]);
        }
    }

    private static void winsOrLoses() {
        sittings("none is BEHIND", "w0,0;w1,0;w2,0;w3,0;", 2, 2, 2, 2);
        sittings("a STOP is BEHIND", "w0,0;w1,0;w2,0;w3,0;g0,2;g1,2;g2,2;g3,2;", 1, 1, 1, 1);
        sittings("for ever", "w0,0;w0,0;g0,1;g1,0;", 0, 0);
        sittings("for ever, one alone", "w0,0;g0,0;", 0);
        sittings("to one that can say none", "w0,0;w0,0;g0,1;", 1, 2);
        sittings("to one that can say none, or for ever", "w0,0;w0,0;g0,0;g0,1;", 1, 2);
        sittings("to a STOP of the other, or for ever", "w0,0;w0,0;w2,0;g0,0;g0,1;g1,2;", 0, 1, 2);
        sittings("to STOPS of the other alone", "w0,0;w0,0;w0,0;w2,0;g0,1;g0,2;g1,3;g2,3;", 2, 1, 1, 2);
        sittings("a STOP and more", "w0,0;w2,0;w0,0;g0,0;g0,2;g0,1;g2,0;", 1, 2, 2);
        sittings("who says a STOP WINS, whatever is BEHIND it", "w0,0;w2,0;g0,1;g1,0;", 1, 2);
        sittings("ten in a chain", Boroughs.TEN_PLAIN + "g0,1;g1,2;g2,3;g3,4;g4,5;g5,6;g6,7;g7,8;g8,9;", 1, 2, 1, 2, 1, 2, 1, 2, 1, 2);
        sittings("ten in a chain to a STOP", TO_A_STOP, 1, 2, 1, 2, 1, 2, 1, 2, 1, 2);
        sittings("ten in a ring", Boroughs.TEN_PLAIN + "g0,1;g1,2;g2,3;g3,4;g4,5;g5,6;g6,7;g7,8;g8,9;g9,0;", 0, 0, 0, 0, 0, 0, 0, 0, 0, 0);
        // What is said and who knows what is no matter.
        Story learnt = Story.of("w0,0;w2,0;g0,1;k1,1;").say(0).learn(1, 1).learn(0, 1);
        Edge.due("sitting(0)", learnt.play().sitting(0), 1);
        Edge.due("sitting(1)", learnt.play().sitting(1), 2);
    }

    private static void oneToEight() {
        Story chain = Story.of(TO_A_STOP);
        for (int n = 1; n <= 8; n++) {
            Edge.due("one way of " + n, chain.play().ways(n, 0), 1);
            Edge.due("one SAFE way of " + n, chain.play().ways(n, 1), 1);
            Edge.due("no way of " + n, Story.of("w0,0;w1,0;w3,0;g0,0;g0,1;g1,2;g2,0;").play().ways(n, 0), 0);
            Edge.due("no SAFE way of " + n, Story.of("w0,0;w1,0;w3,0;g0,0;g0,1;g1,2;g2,0;").play().ways(n, 1), 0);
            Edge.due("ways of ten stops by three", Boroughs.brimful().play().ways(n, 0), 10 * (int) Math.pow(3, n - 1));
            Edge.due("SAFE ways of ten stops by three", Boroughs.brimful().play().ways(n, 1), 10 * (int) Math.pow(3, n - 1));
        }
        Story known = Story.of(TO_A_STOP + "k1,9;");
        Edge.due("SAFE way of 1", known.play().ways(1, 1), 1);
        Edge.due("SAFE way of 2", known.play().ways(2, 1), 0);
        Edge.due("a way of 2", known.play().ways(2, 0), 1);
        // As many as a text can tell: five stops, each behind each.
        StringBuilder text = new StringBuilder("w2,0;".repeat(5));
        for (int i = 0; i < 25; i++) {
            text.append("g").append(i / 5).append(",").append(i % 5).append(";");
        }
        Story most = Story.of(text.toString());
        Edge.due("most ways", most.play().ways(8, 0), 390625);
        Edge.due("most SAFE ways", most.play().ways(8, 1), 390625);
        Edge.due("SAFE ways, one stop known", most.learn(1, 0).play().ways(8, 1), 0);
        Edge.due("ways, one stop known", most.learn(1, 0).play().ways(8, 0), 390625);
        Edge.due("ways with a proverb first", Story.of("w3,0;w0,0;w2,0;g0,2;g1,2;").play().ways(2, 0), 2);
        Edge.due("SAFE ways with a proverb first", Story.of("w3,0;w0,0;w2,0;g0,2;g1,2;").play().ways(2, 1), 1);
    }

    private static void guess(String name, Story story, int sets, int all, int any) {
        TwoMayors x = story.play();
        Edge.due(name + ": guessed(0)", x.guessed(0), sets);
        Edge.due(name + ": guessed(1)", x.guessed(1), sets == 0 ? NONE : all);
        Edge.due(name + ": guessed(2)", x.guessed(2), sets == 0 ? NONE : any);
    }

    private static void eightSeen() {
        TwoMayors x = new TwoMayors();
        for (int n = 1; n <= 8; n++) {
            Edge.due("the same, for the " + n + ". time", x.seen(0, 1), n);
            Edge.due("SEEN", x.count(6), n);
            Edge.due("no other guess by that", x.guessed(0), 64);
        }
        Edge.due("the 9th", x.seen(0, 1), FULL);
        String text = "w3,0;w2,0;w1,0;w2,0;g0,1;g2,1;g3,1;";
        guess("a PROVERB is not first here", Story.of(text).seen(0, 1), 8, 2, 15);
        guess("a PROVERB is not first here", Story.of(text).seen(0, 0), 8, 0, 13);
        guess("behind an ADJECTIVE he could not", Story.of(text).seen(2, 0), 16, 0, 15);
        guess("behind an ADJECTIVE he could", Story.of(text).seen(2, 1), 0, 0, 0);
        guess("with none BEHIND he could", Story.of(text).seen(1, 1), 0, 0, 0);
        guess("behind a STOP he could", Story.of(text).seen(3, 1), 8, 2, 15);
        // Each of the eight counts, the last one too.
        Story eight = Story.of(text).seen(2, 0).seen(2, 0).seen(2, 0).seen(2, 0).seen(2, 0).seen(2, 0).seen(2, 0);
        guess("seven", eight, 16, 0, 15);
        guess("the eighth", eight.seen(0, 1), 8, 2, 15);
        guess("the ninth is none", eight.seen(0, 1).then(t -> t.seen(0, 0)), 8, 2, 15);
    }

    private static void setsOfWords() {
        guess("nothing SEEN, one word", Story.of("w0,0;"), 2, 0, 1);
        guess("nothing SEEN, ten words", Story.of(Boroughs.TEN_PLAIN), 1024, 0, 1023);
        guess("just the empty set", Story.of(RING).seen(0, 0), 1, 0, 0);
        guess("just the set of all", Story.of(RING).seen(0, 1), 1, 1, 1);
        guess("could and could not", Story.of(RING).seen(0, 1).seen(0, 0), 0, 0, 0);
        guess("could not and could", Story.of(RING).seen(0, 0).seen(0, 1), 0, 0, 0);
        guess("of any, though of none the whole", Story.of("w0,0;w0,0;w2,0;g0,1;g1,2;").seen(0, 0), 6, 0, 7);
        Story asked = Story.of(RING).then(t -> t.guessed(2));
        guess("nothing of the guess ahead is left", asked.seen(0, 0), 1, 0, 0);
        guess("nothing of the guess ahead is left", asked.seen(0, 0).then(t -> t.guessed(1)).forget(), 2, 0, 1);
        String ring = "w0,0;w0,0;w2,0;w0,0;w0,0;w2,0;w0,0;w0,0;w2,0;w2,0;g0,1;g1,2;g2,3;g3,4;g4,5;g5,6;g6,7;g7,8;g8,9;g9,0;l3;";
        guess("just the set of all ten", Story.of(ring).seen(9, 1).seen(2, 1).seen(5, 1).seen(8, 1), 1, 1023, 1023);
        guess("all but the last one", Story.of(ring).seen(9, 1).seen(2, 1).seen(5, 1).seen(8, 0), 1, 511, 511);
        guess("too far by one", Story.of(ring.replace("l3", "l2")).seen(9, 1), 0, 0, 0);
        // What he knows in truth is no matter, nor who has the chain.
        Story story = Story.ofNew().seen(0, 1);
        guess("as SEEN", story, 64, 0, 127);
        guess("learnt then", story.learn(1, 1).learn(1, 4).learn(0, 6), 64, 0, 127);
        guess("the chain went over", story.say(0).finish(), 64, 0, 127);
        guess("kept and back", story.keep().seen(3, 0).back(), 16, 10, 123);
    }

    private static void councils(String name, Story story, int z, int n, int chain, int decrees, int gained) {
        TwoMayors x = story.play();
        Edge.due(name + ": council(" + z + ", " + n + ", 0)", x.council(z, n, 0), chain);
        Edge.due(name + ": council(" + z + ", " + n + ", 1)", x.council(z, n, 1), decrees);
        Edge.due(name + ": council(" + z + ", " + n + ", 2)", x.council(z, n, 2), gained);
    }

    /** The answers were reckoned by another program, in another language. */
    private static void drawsAndTimes() {
        int[][] atFirst = {{0, 1, 0, 0, 500}, {0, 2, 1, 1, 494}, {0, 4, 1, 2, 490}, {0, 59, 1, 15, 476}, {0, 60, 1, 15, 476},
            {1, 5, 1, 1, 490}, {1, 60, 0, 9, 486}, {9998, 60, 1, 13, 503}, {9999, 1, 0, 0, 500}, {9999, 6, 1, 1, 497},
            {9999, 59, 1, 6, 496}, {9999, 60, 1, 7, 494}};
        for (int[] c : atFirst) {
            councils("at first", Story.ofNew(), c[0], c[1], c[2], c[3], c[4]);
        }
        int[][] brimful = {{0, 1, 0, 0, 500}, {0, 8, 0, 1, 509}, {0, 59, 0, 10, 608}, {0, 60, 0, 11, 617}, {1, 1, 0, 1, 608},
            {9998, 60, 0, 13, 653}, {9999, 1, 0, 1, 608}, {9999, 59, 0, 12, 743}, {9999, 60, 0, 13, 752}};
        for (int[] c : brimful) {
            councils("brimful", Boroughs.brimful(), c[0], c[1], c[2], c[3], c[4]);
        }
        Story three = Story.of("w2,9;w3,8;w0,7;g0,0;g0,1;g0,2;g1,0;g1,1;g1,2;g2,0;g2,1;g2,2;k0,0;k1,0;l4;c1;");
        int[][] each = {{0, 1, 1, 0, 500}, {0, 2, 0, 1, 518}, {0, 59, 0, 19, 398}, {1, 5, 1, 2, 507}, {9999, 4, 0, 1, 534},
            {9999, 59, 0, 21, 536}, {9999, 60, 0, 22, 561}};
        for (int[] c : each) {
            councils("each behind each", three, c[0], c[1], c[2], c[3], c[4]);
        }
        // The time is 0 at first in every council, whatever the minute is.
        councils("at a later minute", Story.ofNew().say(0).drop(), 9999, 60, 1, 7, 494);
        councils("behind others", Story.ofNew().then(t -> t.council(0, 60, 0)).then(t -> t.council(9999, 60, 2)), 9999, 60, 1, 7, 494);
    }

    private static void stepByStep() {
        // The draws of z = 0 by 64, cut, modulo 3: 0, 0, 2, 1, 2, 1, 1, 2, ..
        int[] alone = {500, 500, 500, 509, 509, 518, 518, 518};
        int[] ring = {500, 482, 482, 473, 473, 464, 464, 464};
        for (int n = 1; n <= 8; n++) {
            // Said; it can not be finished, nor said once more: dropped; said; ended; said; ended; said though it is 1; dropped.
            Edge.due("a stop alone", Story.of("w2,9;").play().council(0, n, 2), alone[n - 1]);
            // Said; finished; said; ended; said; ended; said; said.
            Edge.due("a ring that both know", Story.of(RING + "k0,0;k1,0;").play().council(0, n, 2), ring[n - 1]);
        }
        Story full = Story.of(RING).say(0, 0, 0, 0, 0, 0, 0, 0, 0, 0);
        // The 13th can not be said: then it is dropped.
        councils("10 said", full, 0, 3, 0, 0, 500);
        councils("10 said", full, 0, 6, 0, 1, 518);
        councils("11 said", full.say(0), 0, 4, 0, 1, 509);
        councils("12 said", full.say(0, 0), 0, 1, 0, 0, 500);
        councils("12 said", full.say(0, 0), 0, 4, 0, 1, 518);
        councils("12 said and ended", full.say(0, 0), 1, 1, 0, 1, 608);
        councils("12 said and finished", full.say(0, 0).learn(1, 0), 0, 1, 1, 1, 383);
        councils("none that can be said but at first", Story.of("w0,9;"), 0, 60, 0, 0, 500);
    }

    /** The answers were reckoned by another program, in another language. */
    private static void draws() {
        // From z = 6 on x times x is more than an int holds, for z = 5 behind two times; it is always less than a long holds.
        // The greatest draw there is, 32759, comes first for 3653 and 7192; for 8058 the second draw is 0.
        int[][] atFirst = {{5, 2, 1, 1, 494}, {5, 3, 1, 1, 494}, {5, 60, 0, 6, 511}, {6, 1, 0, 0, 500}, {6, 10, 1, 1, 497},
            {6, 60, 1, 7, 500}, {3653, 10, 0, 1, 504}, {3653, 60, 1, 8, 481}, {7192, 10, 0, 1, 503}, {7192, 60, 0, 10, 513},
            {8058, 4, 0, 1, 504}, {8058, 60, 1, 11, 487}};
        for (int[] c : atFirst) {
            councils("at first", Story.ofNew(), c[0], c[1], c[2], c[3], c[4]);
        }
        // Ten stops, none behind another: their worth tells which one was drawn.
        Story stops = Story.of("w2,0;w2,1;w2,2;w2,3;w2,4;w2,5;w2,6;w2,7;w2,8;w2,9;");
        int[][] ofTen = {{5, 10, 0, 1, 508}, {5, 60, 0, 10, 554}, {6, 4, 0, 1, 500}, {6, 60, 0, 10, 542}, {3653, 2, 0, 1, 509},
            {3653, 4, 0, 2, 517}, {3653, 60, 0, 11, 542}, {7192, 60, 0, 9, 531}, {8058, 4, 0, 1, 502}, {8058, 60, 0, 13, 543},
            {0, 60, 0, 11, 547}, {9999, 20, 0, 2, 510}, {9999, 60, 0, 9, 544}};
        for (int[] c : ofTen) {
            councils("ten stops", stops, c[0], c[1], c[2], c[3], c[4]);
        }
    }

    private static void inAll() {
        Story story = Story.ofNew().say(4).end().say(0).finish();
        councils("what was ahead counts", story, 0, 1, 1, 2, 498);
        // Mayor 1 alone has gained: 9 a word. The answer may be less than none.
        Story one = Story.of(RING + "c1;");
        for (int i = 0; i < 4; i++) {
            one = one.say(0, 0, 0, 0, 0, 0, 0, 0, 0, 0, 0, 0).end();
        }
        councils("MAYOR 1: 48 words", one, 0, 1, 1, 4, 500 - 432);
        councils("MAYOR 1: 55 words", one.say(0, 0, 0, 0, 0, 0, 0).end(), 0, 1, 1, 5, 5);
        councils("MAYOR 1: 56 words", one.say(0, 0, 0, 0, 0, 0, 0, 0).end(), 0, 1, 1, 5, -4);
        councils("MAYOR 1: 60 words", one.say(0, 0, 0, 0, 0, 0, 0, 0, 0, 0, 0, 0).end(), 0, 1, 1, 5, -40);
        Story zero = Story.of(RING + "c0;");
        for (int i = 0; i < 5; i++) {
            zero = zero.say(0, 0, 0, 0, 0, 0, 0, 0, 0, 0, 0, 0).end();
        }
        councils("MAYOR 0: 60 words", zero, 0, 1, 0, 5, 1040);
    }

    private static void finishing() {
        for (Story story : Boroughs.threeStories()) {
            for (int k : Edge.outside(-1, 3)) {
                Edge.still(story, "finishing(" + k + ")", t -> t.finishing(k), BAD);
            }
            for (int k = -1; k <= 3; k++) {
                int asked = k;
                Edge.still(story, "finishing(" + k + ") of none", t -> t.finishing(asked), NONE);
            }
        }
        String way = "w3,1;w0,1;w0,1;w0,1;w2,1;g0,1;g1,2;g2,3;g3,4;l4;";
        finishingRow("four", Story.of(way).say(0), 1, 2, 3, 4);
        finishingRow("three", Story.of(way).say(0, 1), 2, 3, 4);
        finishingRow("two", Story.of(way).say(0, 1, 2), 3, 4);
        finishingRow("one", Story.of(way).say(0, 1, 2, 3), 4);
        finishingRow("none", Story.of(way).say(0, 1, 2, 3, 4));
        for (int k = -1; k <= 3; k++) {
            int asked = k;
            Edge.still(Story.of(way).say(0), "finishing(" + k + ") of 4", t -> t.finishing(asked), k == -1 ? 4 : k + 1);
        }
        for (int k : Edge.outside(-1, 3)) {
            Edge.still(Story.of(way).say(0), "finishing(" + k + ") of 4", t -> t.finishing(k), BAD);
        }
    }

    private static void safe() {
        badByWordAndK("safe", (x, w, k) -> x.safe(w, k));
        Story ten = Story.of(TO_A_STOP);
        for (int k = -1; k <= 9; k++) {
            int asked = k;
            Edge.still(ten, "safe(0, " + k + ") of 10", t -> t.safe(0, asked), k == -1 ? 10 : k);
            Edge.still(ten, "safe(9, " + k + ") of 1", t -> t.safe(9, asked), k == -1 ? 1 : k == 0 ? 9 : NONE);
            Edge.still(Story.ofNew(), "safe(6, " + k + ") of 2", t -> t.safe(6, asked), k == -1 ? 2 : k == 0 ? 6 : k == 1 ? 4 : NONE);
            Edge.still(Story.ofNew(), "safe(0, " + k + ") of none", t -> t.safe(0, asked), NONE);
        }
    }

    private static void best() {
        for (Story story : Boroughs.threeStories()) {
            for (int n : Edge.outside(1, 10)) {
                Edge.still(story, "best(" + n + ", -1)", t -> t.best(n, -1), BAD);
                Edge.due("best(" + n + ", 10)", story.play().best(n, 10), BAD);
            }
            for (int k : Edge.outside(-2, 9)) {
                Edge.still(story, "best(1, " + k + ")", t -> t.best(1, k), BAD);
                Edge.still(story, "best(10, " + k + ")", t -> t.best(10, k), BAD);
            }
        }
        Story ring = Story.of(RING);
        Story none = Story.of("w0,9;");
        for (int k = -2; k <= 9; k++) {
            int asked = k;
            Edge.still(ring, "best(10, " + k + ") of 10", t -> t.best(10, asked), k == -1 ? 90 : k == -2 ? 10 : 0);
            Edge.still(ring, "best(9, " + k + ") of 9", t -> t.best(9, asked), k == -1 ? 81 : k == -2 ? 9 : k < 9 ? 0 : NONE);
            Edge.still(ring, "best(1, " + k + ") of 1", t -> t.best(1, asked), k == -1 ? 9 : k == -2 ? 1 : k == 0 ? 0 : NONE);
            Edge.still(none, "best(1, " + k + ") of none", t -> t.best(1, asked), NONE);
            Edge.still(none, "best(10, " + k + ") of none", t -> t.best(10, asked), NONE);
        }
    }

    private static void lure() {
        badByWordAndK("lure", (x, w, k) -> x.lure(w, k));
        Story ten = Story.of("w3,0;w1,0;w2,0;w0,0;w0,0;w0,0;w0,0;w0,0;w0,0;w0,0;"
            + "g0,1;g1,2;g2,3;g3,4;g4,5;g5,6;g6,7;g7,8;g8,9;g9,2;l1;");
        for (int k = -1; k <= 9; k++) {
            int asked = k;
            Edge.still(ten, "lure(2, " + k + ") of 10", t -> t.lure(2, asked), k == -1 ? 10 : k);
            Edge.still(ten, "lure(9, " + k + ") of none", t -> t.lure(9, asked), NONE);
            Edge.still(Story.ofNew(), "lure(3, " + k + ") of 1", t -> t.lure(3, asked), k == -1 ? 1 : k == 0 ? 0 : NONE);
        }
    }

    /** A call by a word and a k. */
    private interface ByWordAndK {
        int of(TwoMayors x, int w, int k);
    }

    private static void badByWordAndK(String name, ByWordAndK call) {
        Story[] stories = Boroughs.threeStories();
        for (int i = 0; i < stories.length; i++) {
            int last = Boroughs.wordsOfThree()[i] - 1;
            for (int w : Edge.noWords(last + 1)) {
                Edge.still(stories[i], name + "(" + w + ", -1)", t -> call.of(t, w, -1), BAD);
                Edge.still(stories[i], name + "(" + w + ", 9)", t -> call.of(t, w, 9), BAD);
                Edge.due(name + "(" + w + ", 10)", call.of(stories[i].play(), w, 10), BAD);
            }
            for (int k : Edge.outside(-1, 9)) {
                Edge.still(stories[i], name + "(0, " + k + ")", t -> call.of(t, 0, k), BAD);
                Edge.still(stories[i], name + "(" + last + ", " + k + ")", t -> call.of(t, last, k), BAD);
            }
        }
    }

    private static void sitting() {
        Story[] stories = Boroughs.threeStories();
        for (int i = 0; i < stories.length; i++) {
            for (int w : Edge.noWords(Boroughs.wordsOfThree()[i])) {
                Edge.still(stories[i], "sitting(" + w + ")", t -> t.sitting(w), BAD);
            }
        }
        int[] wanted = {2, 1, 1, 2, 2, 1, 1};
        for (int w = 0; w < 7; w++) {
            int asked = w;
            Edge.still(Boroughs.midway(), "sitting(" + w + ")", t -> t.sitting(asked), wanted[w]);
        }
        Edge.still(Boroughs.brimful(), "sitting(9)", t -> t.sitting(9), 1);
    }

    private static void ways() {
        for (Story story : Boroughs.threeStories()) {
            for (int n : Edge.outside(1, 8)) {
                Edge.still(story, "ways(" + n + ", 0)", t -> t.ways(n, 0), BAD);
                Edge.still(story, "ways(" + n + ", 1)", t -> t.ways(n, 1), BAD);
                Edge.due("ways(" + n + ", 2)", story.play().ways(n, 2), BAD);
            }
            for (int what : Edge.outside(0, 1)) {
                Edge.still(story, "ways(1, " + what + ")", t -> t.ways(1, what), BAD);
                Edge.still(story, "ways(8, " + what + ")", t -> t.ways(8, what), BAD);
            }
        }
        Edge.still(Story.ofNew(), "ways(1, 0)", t -> t.ways(1, 0), 2);
        Edge.still(Story.ofNew(), "ways(1, 1)", t -> t.ways(1, 1), 2);
        Edge.still(Boroughs.brimful(), "ways(8, 0)", t -> t.ways(8, 0), 21870);
        Edge.still(Boroughs.brimful(), "ways(8, 1)", t -> t.ways(8, 1), 21870);
        // All of them are none the fewer for having asked how many are safe.
        Edge.due("ways(2, 0) behind ways(2, 1)", Story.ofNew().then(t -> t.ways(2, 1)).play().ways(2, 0), 5);
    }

    private static void seen() {
        Story[] stories = Boroughs.threeStories();
        for (int i = 0; i < stories.length; i++) {
            Story story = stories[i];
            int last = Boroughs.wordsOfThree()[i] - 1;
            for (int w : Edge.noWords(last + 1)) {
                Edge.still(story, "seen(" + w + ", 0)", t -> t.seen(w, 0), BAD);
                Edge.still(story, "seen(" + w + ", 1)", t -> t.seen(w, 1), BAD);
                Edge.due("seen(" + w + ", 2)", story.play().seen(w, 2), BAD);
            }
            for (int could : Edge.outside(0, 1)) {
                Edge.still(story, "seen(0, " + could + ")", t -> t.seen(0, could), BAD);
                Edge.still(story, "seen(" + last + ", " + could + ")", t -> t.seen(last, could), BAD);
            }
        }
        Edge.still(Boroughs.brimful(), "seen(0, 0) of 9", t -> t.seen(0, 0), FULL);
        Edge.still(Boroughs.brimful(), "seen(9, 1) of 9", t -> t.seen(9, 1), FULL);
        Edge.due("seen(0, 0)", Story.ofNew().play().seen(0, 0), 1);
        Edge.due("seen(6, 1)", Story.ofNew().play().seen(6, 1), 1);
        Edge.due("seen(9, 1)", Boroughs.brimful().forget().play().seen(9, 1), 1);
        TwoMayors x = Story.ofNew().seen(0, 1).play();
        Edge.counts(x, 7, 0, 0, 0, 0, 2, 1, 0, 0, 0);
    }

    private static void forget() {
        Edge.still(Story.ofNew(), "forget() of none", TwoMayors::forget, 0);
        Edge.due("forget() of 1", Story.ofNew().seen(0, 0).play().forget(), 1);
        Edge.due("forget() of 8", Boroughs.brimful().play().forget(), 8);
        Edge.still(Boroughs.brimful().forget(), "forget() once more", TwoMayors::forget, 0);
        Edge.alike("as if nothing had been SEEN", Story.ofNew().seen(3, 1).seen(2, 1).forget(), Story.ofNew());
        TwoMayors x = Boroughs.brimful().forget().play();
        Edge.counts(x, 10, 12, 12, 0, 0, 2, 0, 8, 2, 200);
        for (int n = 1; n <= 8; n++) {
            Edge.due("seen(0, 0) anew", x.seen(0, 0), n);
        }
        Edge.due("seen(0, 0) of 9", x.seen(0, 0), FULL);
    }

    private static void guessed() {
        for (Story story : Boroughs.threeStories()) {
            for (int what : Edge.outside(0, 2)) {
                Edge.still(story, "guessed(" + what + ")", t -> t.guessed(what), BAD);
            }
        }
        Edge.still(Story.ofNew(), "guessed(0)", t -> t.guessed(0), 128);
        Edge.still(Story.ofNew(), "guessed(1)", t -> t.guessed(1), 0);
        Edge.still(Story.ofNew(), "guessed(2)", t -> t.guessed(2), 127);
        Story none = Story.ofNew().seen(4, 1);
        Edge.still(none, "guessed(0) of none", t -> t.guessed(0), 0);
        Edge.still(none, "guessed(1) of none", t -> t.guessed(1), NONE);
        Edge.still(none, "guessed(2) of none", t -> t.guessed(2), NONE);
        for (int what : Edge.outside(0, 2)) {
            Edge.still(none, "guessed(" + what + ") of none", t -> t.guessed(what), BAD);
        }
        // A guess of one borough is none of the next one.
        Story next = Story.ofNew().seen(4, 1).then(t -> t.guessed(0)).write("w2,0;g0,0;").lay().seen(0, 1);
        guess("in another borough", next, 1, 1, 1);
    }

    private static void council() {
        for (Story story : Boroughs.threeStories()) {
            for (int what = 0; what < 3; what++) {
                int asked = what;
                for (int z : Edge.outside(0, 9999)) {
                    Edge.still(story, "council(" + z + ", 1, " + what + ")", t -> t.council(z, 1, asked), BAD);
                }
                for (int n : Edge.outside(1, 60)) {
                    Edge.still(story, "council(0, " + n + ", " + what + ")", t -> t.council(0, n, asked), BAD);
                    Edge.due("council(10000, " + n + ", " + what + ")", story.play().council(10000, n, what), BAD);
                }
                for (int n : new int[] {1, 60}) {
                    int want = story.play().council(9999, n, what);
                    Edge.still(story, "council(9999, " + n + ", " + what + ")", t -> t.council(9999, n, asked), want);
                }
            }
            for (int what : Edge.outside(0, 2)) {
                Edge.still(story, "council(0, 1, " + what + ")", t -> t.council(0, 1, what), BAD);
                Edge.still(story, "council(9999, 60, " + what + ")", t -> t.council(9999, 60, what), BAD);
            }
        }
    }
}
