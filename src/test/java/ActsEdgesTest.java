/** Boundary cases of acts and of what is kept: chapter 2 of the document, promises 9 to 14 and 25 to 27, sentence by sentence. */
public final class ActsEdgesTest {
    private static final int BAD = Edge.BAD, NO = Edge.NO, FULL = Edge.FULL, NONE = Edge.NONE;
    /** A way of five words to a stop, all known to mayor 1 but for the first one. */
    private static final String WAY = "w0,1;w0,2;w0,3;w0,4;w2,5;g0,1;g1,2;g2,3;g3,4;k1,1;k1,2;k1,3;k1,4;";
    /** Behind a stop comes the same stop, for ever. */
    private static final String RING = "w2,9;g0,0;";

    private ActsEdgesTest() {
    }

    public static void main(String[] args) {
        chapterTwo();
        promises();
        kept();
        Check.close();
    }

    private static void chapterTwo() {
        Edge.sentence("says a WORD, any at first, then one that may come BEHIND the last one, 12 at most; a MINUTE each.",
            ActsEdgesTest::anyAtFirst);
        Edge.sentence("If its last WORD is a STOP, the one who SPEAKS may END it: it is a DECREE of that MAYOR, "
            + "who GAINS what its WORDS are WORTH together; THE SENTENCE is empty then.", ActsEdgesTest::mayEnd);
        Edge.sentence("It can be DROPPED (empty then), by a MINUTE.", ActsEdgesTest::canBeDropped);
        Edge.sentence("The other one can FINISH it, if it has a WORD, the last one of it is no ADJECTIVE", ActsEdgesTest::lastNoAdjective);
        Edge.sentence("there are WORDS, L at most, one at least, each BEHIND the one ahead, the last one a STOP",
            ActsEdgesTest::fewEnough);
        Edge.sentence("all of which he KNOWS (any WORDS do, if the first one of THE SENTENCE is a PROVERB).", ActsEdgesTest::allKnown);
        Edge.sentence("By it he says these (a MINUTE each, more than 12, too), the whole is a DECREE of his, "
            + "he GAINS all that its WORDS are WORTH, and has the CHAIN; THE SENTENCE is empty.", ActsEdgesTest::moreThanTwelve);
        Edge.sentence("A MAYOR learns a WORD, or forgets it.", ActsEdgesTest::learnsOrForgets);
        Edge.sentence("UNDONE is the latest of these (the last 8 can be).", ActsEdgesTest::lastEight);
    }

    private static void promises() {
        Edge.sentence("A WORD is said: how many THE SENTENCE has. BAD; NO: not BEHIND the last one; FULL: 12.", ActsEdgesTest::say);
        Edge.sentence("ENDED: how much it is WORTH. NO: the last WORD is no STOP, there is none.", ActsEdgesTest::end);
        Edge.sentence("FINISHED by the other one: how much it is WORTH. NO: he can not.", ActsEdgesTest::finish);
        Edge.sentence("DROPPED: how many WORDS it had. NO: none.", ActsEdgesTest::drop);
        Edge.sentence("A MAYOR learns a WORD, or forgets it: 1 if he KNOWS it then, 0. BAD.", ActsEdgesTest::learn);
        Edge.sentence("UNDONE: how many more can be. NO.", ActsEdgesTest::undo);
    }

    private static void kept() {
        Edge.sentence("KEPT is all as it stands, but what is SEEN: 2 at most.", ActsEdgesTest::allButSeen);
        Edge.sentence("`int keep()`: KEPT: how many. FULL.", ActsEdgesTest::keep);
        Edge.sentence("As KEPT last: how many are left; nothing is UNDONE then. NO.", ActsEdgesTest::back);
        Edge.sentence("How many: 0 WORDS, 1 the MINUTE, 2 WORDS of THE SENTENCE, 3 DECREES of both, "
            + "4 how often the CHAIN went over, 5 L, 6 SEEN, 7 that can be UNDONE, 8 KEPT, 9 letters of THE TEXT. BAD.",
            ActsEdgesTest::count);
        Edge.sentence("BAD: a number is none that is told (WORDS: such as there are; MAYORS 0, 1).", ActsEdgesTest::suchAsThereAre);
        Edge.sentence("Of several the first; nothing changes then.", ActsEdgesTest::ofSeveral);
    }

    private static Story timesSaid(int times) {
        Story story = Story.of(RING);
        for (int i = 0; i < times; i++) {
            story = story.say(0);
        }
        return story;
    }

    private static void anyAtFirst() {
        for (int w = 0; w < 7; w++) {
            Edge.due("any at first", Story.ofNew().play().say(w), 1);
            Edge.due("any behind a drop", Story.ofNew().say(4).drop().play().say(w), 1);
            Edge.due("any behind an end", Story.ofNew().say(4).end().play().say(w), 1);
            Edge.due("any behind a finish", Story.ofNew().say(0).finish().play().say(w), 1);
        }
        int[] behind = {6, 72, 24, 4, 0, 8, 17};
        for (int last = 0; last < 7; last++) {
            for (int w = 0; w < 7; w++) {
                int said = w;
                boolean may = (behind[last] >> w & 1) == 1;
                if (may) {
                    Edge.due(w + " behind " + last, Story.ofNew().say(last).play().say(w), 2);
                } else {
                    Edge.still(Story.ofNew().say(last), w + " behind " + last, t -> t.say(said), NO);
                }
            }
        }
        Edge.still(Story.ofNew().say(0, 1, 3), "behind the last one, not one ahead", t -> t.say(6), NO);
        for (int n = 1; n <= 12; n++) {
            TwoMayors x = timesSaid(n - 1).play();
            Edge.due("the " + n + ". word", x.say(0), n);
            Edge.due("MINUTE", x.count(1), n);
        }
        Edge.still(timesSaid(12), "the 13th word", t -> t.say(0), FULL);
    }

    private static void mayEnd() {
        // Mayor 1 has the chain by c1, or because it went over.
        Story given = Story.of("w2,7;k0,0;k1,0;g0,0;c1;").say(0, 0).end();
        Edge.mayor(given.play(), 1, 1, 1, 14, 1);
        Edge.mayor(given.play(), 0, 0, 0, 0, 1);
        Edge.counts(given.play(), 1, 2, 0, 1, 0);
        Story over = Story.of("w2,7;k0,0;k1,0;g0,0;").say(0).finish().say(0).end();
        Edge.mayor(over.play(), 1, 1, 2, 21, 1);
        Edge.mayor(over.play(), 0, 0, 0, 0, 1);
        Edge.counts(over.play(), 1, 3, 0, 2, 1);
        Edge.due("said(0) then", over.play().said(0), NONE);
        Edge.still(over, "end() of the empty one", TwoMayors::end, NO);
        Edge.still(over, "drop() of the empty one", TwoMayors::drop, NO);
        Edge.still(over, "finish() of the empty one", TwoMayors::finish, NO);
    }

    private static void canBeDropped() {
        for (int n = 1; n <= 12; n++) {
            TwoMayors x = timesSaid(n).play();
            Edge.due("drop() of " + n, x.drop(), n);
            Edge.counts(x, 1, n + 1, 0, 0, 0);
            Edge.due("said(0) then", x.said(0), NONE);
            Edge.mayor(x, 0, 1, 0, 0);
        }
        Edge.still(timesSaid(12).drop(), "drop() of none", TwoMayors::drop, NO);
    }

    private static void lastNoAdjective() {
        Edge.still(Story.of("w2,0;k1,0;"), "finish() without a word", TwoMayors::finish, NO);
        String known = ",1;w2,2;g0,1;g1,0;k1,1;k1,0;";
        for (int kind = 0; kind < 4; kind++) {
            Story said = Story.of("w" + kind + known).say(0);
            if (kind == 1) {
                Edge.still(said, "finish() behind an adjective", TwoMayors::finish, NO);
                Edge.still(said, "finishing(-1) behind an adjective", t -> t.finishing(-1), NONE);
                Edge.still(said.say(1, 0), "finish() behind an adjective, later", TwoMayors::finish, NO);
                Edge.due("finish() with an adjective ahead", said.say(1).play().finish(), 1 + 2 + 1 + 2);
            } else {
                Edge.due("finish() behind one of kind " + kind, said.play().finish(), 3);
            }
        }
        Edge.still(Story.of("w3,0;w1,0;w2,0;g0,1;g1,2;").say(0, 1), "finish() behind a proverb and an adjective", TwoMayors::finish, NO);
    }

    private static void fewEnough() {
        for (int most = 1; most <= 4; most++) {
            for (int said = 1; said <= 5; said++) {
                Story story = Story.of(WAY + "l" + most + ";");
                for (int w = 0; w < said; w++) {
                    story = story.say(w);
                }
                int left = 5 - said;
                if (left >= 1 && left <= most) {
                    Edge.due("finish() by " + left + " of l" + most, story.play().finish(), 15);
                } else {
                    Edge.still(story, "finish() by " + left + " of l" + most, TwoMayors::finish, NO);
                }
            }
        }
        Edge.still(Story.of(WAY).say(0, 1), "finish() by 3 without l", TwoMayors::finish, NO);
        Edge.due("finish() by 2 without l", Story.of(WAY).say(0, 1, 2).play().finish(), 15);
        // The stop that is said already is none of the words that he says.
        Edge.still(Story.of("w2,1;k1,0;").say(0), "finish() by none", TwoMayors::finish, NO);
        Edge.still(Story.of("w0,1;w2,1;g1,0;k1,1;k1,0;").say(0), "not BEHIND the one ahead", TwoMayors::finish, NO);
        Edge.still(Story.of("w0,1;w0,1;g0,1;g1,0;k1,1;k1,0;l4;").say(0), "without a STOP", TwoMayors::finish, NO);
        Edge.still(Story.of("w0,1;w2,1;w0,1;g0,2;g2,0;g1,2;k1,0;k1,1;k1,2;l4;").say(0), "to no STOP", TwoMayors::finish, NO);
    }

    private static void allKnown() {
        Story told = Story.of(WAY + "l4;").say(0);
        Edge.due("finish() by one who KNOWS all", told.play().finish(), 15);
        Edge.due("finish() of what he KNOWS not", told.learn(1, 0).play().finish(), 15);
        for (int w = 1; w <= 4; w++) {
            Edge.still(told.learn(1, w), "finish() without " + w, TwoMayors::finish, NO);
            Edge.still(told.learn(1, w).learn(0, w), "finish(): the other MAYOR KNOWS " + w, TwoMayors::finish, NO);
        }
        Edge.still(Story.of(WAY.replace("k1", "k0") + "l4;").say(0), "finish(): who SPEAKS KNOWS all", TwoMayors::finish, NO);
        Edge.due("finish(): MAYOR 0 is the other one", Story.of(WAY.replace("k1", "k0") + "l4;c1;").say(0).play().finish(), 15);
        String none = WAY.substring(0, WAY.indexOf('k'));
        Edge.still(Story.of(none + "l4;").say(0), "finish() of one who KNOWS none", TwoMayors::finish, NO);
        String proverb = none.replace("w0,1", "w3,1");
        Edge.due("finish(): a PROVERB first", Story.of(proverb + "l4;").say(0).play().finish(), 15);
        Edge.due("finish(): a PROVERB first, and more", Story.of(proverb).say(0, 1, 2).play().finish(), 15);
        Edge.still(Story.of(proverb + "l3;").say(0), "finish(): a PROVERB first, but too far", TwoMayors::finish, NO);
        Edge.still(Story.of(proverb + "g1,0;l4;").say(1, 0), "finish(): a PROVERB, but not first", TwoMayors::finish, NO);
        Edge.still(Story.of(proverb + "l4;").say(0).drop().say(1), "finish(): a PROVERB first, but dropped", TwoMayors::finish, NO);
    }

    private static void moreThanTwelve() {
        String far = "w3,9;w0,9;w0,9;w0,9;w2,9;g0,0;g0,1;g1,2;g2,3;g3,4;l4;";
        TwoMayors x = Story.of(far).say(0, 0, 0, 0, 0, 0, 0, 0, 0, 0, 0, 0).play();
        Edge.due("finish() of 12 and 4", x.finish(), 16 * 9);
        Edge.counts(x, 5, 16, 0, 1, 1);
        Edge.mayor(x, 0, 0, 0, 0, 0);
        Edge.mayor(x, 1, 1, 1, 144, 0);
        Edge.due("undo()", x.undo(), 7);
        Edge.counts(x, 5, 12, 12, 0, 0);
        TwoMayors eleven = Story.of(far).say(0, 0, 0, 0, 0, 0, 0, 0, 0, 0, 0).play();
        Edge.due("finish() of 11 and 4", eleven.finish(), 15 * 9);
        Edge.due("MINUTE", eleven.count(1), 15);
        TwoMayors short1 = Story.of("w0,0;w2,0;g0,1;k1,1;l1;").say(0).play();
        Edge.due("finish() for nothing", short1.finish(), 0);
        Edge.counts(short1, 2, 2, 0, 1, 1);
        Edge.mayor(short1, 1, 1, 1, 0, 2);
        // The chain comes back when the first one finishes what the second one has begun.
        TwoMayors back = Story.of("w0,1;w2,1;g0,1;k0,1;k1,1;").say(0).finish().say(0).finish().play();
        Edge.counts(back, 2, 4, 0, 2, 2);
        Edge.mayor(back, 0, 1, 1, 2, 2);
        Edge.mayor(back, 1, 0, 1, 2, 2);
    }

    private static void learnsOrForgets() {
        Story ten = Story.of(Boroughs.TEN_PLAIN);
        for (int m = 0; m < 2; m++) {
            for (int w = 0; w < 10; w++) {
                TwoMayors x = ten.play();
                Edge.due("learns", x.learn(m, w), 1);
                Edge.due("KNOWS it", x.mayor(m, 3), 1 << w);
                Edge.due("the other one does not", x.mayor(1 - m, 3), 0);
                Edge.due("MAYORS that KNOW it", x.word(w, 3), 1 << m);
                Edge.due("forgets", x.learn(m, w), 0);
                Edge.due("KNOWS none", x.mayor(m, 3), 0);
                Edge.counts(x, 10, 0, 0, 0, 0, 2, 0, 2, 0, 50);
            }
        }
    }

    private static void lastEight() {
        Story story = Story.of("w0,1;w2,2;g0,1;g1,0;g1,1;k1,1;k1,0;");
        for (int acts = 0; acts <= 20; acts++) {
            TwoMayors x = story.play();
            int can = Math.min(acts, 8);
            Edge.due("that can be UNDONE of " + acts, x.count(7), can);
            for (int left = can - 1; left >= 0; left--) {
                Edge.due("undo() of " + acts, x.undo(), left);
            }
            Edge.due("undo() of none more", x.undo(), NO);
            Edge.due("WORDS of the sentence that stays", x.count(2), Math.max(acts - 8, 0));
            story = acts < 12 ? story.say(acts % 2) : story.learn(acts % 2, 0);
        }
        // Some are undone, others done: always the last eight of those that stand.
        Story mixed = Story.of(Boroughs.TEN_PLAIN);
        for (int w = 0; w < 10; w++) {
            mixed = mixed.learn(0, w);
        }
        mixed = mixed.undo().undo().undo().learn(1, 7).learn(1, 8);
        TwoMayors x = mixed.play();
        Edge.due("that can be UNDONE", x.count(7), 7);
        for (int left = 6; left >= 0; left--) {
            Edge.due("undo()", x.undo(), left);
        }
        Edge.due("undo()", x.undo(), NO);
        Edge.due("what stays", x.mayor(0, 3), 3);
        Edge.due("what stays", x.mayor(1, 3), 0);
    }

    private static void say() {
        Story[] stories = Boroughs.threeStories();
        for (int i = 0; i < stories.length; i++) {
            for (int w : Edge.noWords(Boroughs.wordsOfThree()[i])) {
                Edge.still(stories[i], "say(" + w + ")", t -> t.say(w), BAD);
            }
        }
        for (int w : new int[] {0, 1, 5, 6, 7, 8, 9}) {
            Edge.still(Boroughs.brimful(), "say(" + w + ") as the 13th, not BEHIND", t -> t.say(w), NO);
        }
        for (int w : new int[] {2, 3, 4}) {
            Edge.still(Boroughs.brimful(), "say(" + w + ") as the 13th", t -> t.say(w), FULL);
        }
        Edge.due("say(0)", Story.ofNew().play().say(0), 1);
        Edge.due("say(6)", Story.ofNew().play().say(6), 1);
        Edge.due("say(9) of ten", Story.of(Boroughs.TEN_PLAIN).play().say(9), 1);
        Edge.due("the 12th", timesSaid(11).play().say(0), 12);
        Edge.due("anew behind 12", timesSaid(12).drop().play().say(0), 1);
        Edge.due("anew behind 12", timesSaid(12).end().play().say(0), 1);
        Edge.due("the 12th once more", timesSaid(12).undo().play().say(0), 12);
    }

    private static void end() {
        Edge.still(Story.ofNew(), "end() of none", TwoMayors::end, NO);
        for (int kind = 0; kind < 4; kind++) {
            Story alone = Story.of("w" + kind + ",8;").say(0);
            Story last = Story.of("w2,1;w" + kind + ",8;g0,1;").say(0, 1);
            if (kind == 2) {
                Edge.due("end() of a stop", alone.play().end(), 8);
                Edge.due("end() of two stops", last.play().end(), 9);
            } else {
                Edge.still(alone, "end() of kind " + kind, TwoMayors::end, NO);
                Edge.still(last, "end() of kind " + kind + " behind a stop", TwoMayors::end, NO);
            }
        }
        Edge.due("end() of no WORTH", Story.of("w2,0;").say(0).play().end(), 0);
        Edge.due("end() of 12", timesSaid(12).play().end(), 108);
        Edge.due("end() of 12 stops", Boroughs.brimful().play().end(), 108);
        TwoMayors x = timesSaid(12).end().play();
        Edge.counts(x, 1, 12, 0, 1, 0, 2, 0, 8);
        Edge.mayor(x, 0, 1, 1, 108, 0);
        Edge.still(timesSaid(12).end(), "end() once more", TwoMayors::end, NO);
    }

    private static void finish() {
        Edge.still(Story.ofNew(), "finish() of none", TwoMayors::finish, NO);
        Edge.still(Boroughs.brimful(), "finish() by one who KNOWS none", TwoMayors::finish, NO);
        Edge.still(Story.ofNew().say(4), "finish() with none BEHIND", TwoMayors::finish, NO);
        Edge.still(Story.ofNew().say(6), "finish() with 4 not known", TwoMayors::finish, NO);
        Edge.still(Boroughs.midway(), "finish() behind an adjective", TwoMayors::finish, NO);
        Edge.due("finish() of the least", Story.of("w0,0;w2,0;g0,1;k1,1;").say(0).play().finish(), 0);
        Edge.due("finish() of 12 and one", timesSaid(12).learn(1, 0).play().finish(), 117);
    }

    private static void drop() {
        Edge.still(Story.ofNew(), "drop() of none", TwoMayors::drop, NO);
        Edge.still(Story.ofNew().say(3).end(), "drop() of one ended", TwoMayors::drop, NO);
        Edge.still(Story.ofNew().say(0).finish(), "drop() of one finished", TwoMayors::drop, NO);
        Edge.still(Story.ofNew().say(0).undo(), "drop() of one undone", TwoMayors::drop, NO);
        Edge.due("drop() of 1", Story.ofNew().say(2).play().drop(), 1);
        Edge.due("drop() of 12", Boroughs.brimful().play().drop(), 12);
    }

    private static void learn() {
        Story[] stories = Boroughs.threeStories();
        for (int i = 0; i < stories.length; i++) {
            Story story = stories[i];
            int words = Boroughs.wordsOfThree()[i];
            for (int w : Edge.noWords(words)) {
                Edge.still(story, "learn(0, " + w + ")", t -> t.learn(0, w), BAD);
                Edge.still(story, "learn(1, " + w + ")", t -> t.learn(1, w), BAD);
                Edge.due("learn(2, " + w + ")", story.play().learn(2, w), BAD);
            }
            for (int m : Edge.outside(0, 1)) {
                Edge.still(story, "learn(" + m + ", 0)", t -> t.learn(m, 0), BAD);
                Edge.still(story, "learn(" + m + ", last)", t -> t.learn(m, words - 1), BAD);
            }
        }
        Edge.due("learn(0, 0)", Story.ofNew().play().learn(0, 0), 1);
        Edge.due("learn(1, 6)", Story.ofNew().play().learn(1, 6), 1);
        Edge.due("learn(0, 3)", Story.ofNew().play().learn(0, 3), 0);
        Edge.due("learn(1, 1)", Story.ofNew().play().learn(1, 1), 0);
        Edge.due("learn(1, 9)", Boroughs.brimful().play().learn(1, 9), 1);
        // It is no matter whether a sentence is begun: what he knows counts at once.
        TwoMayors x = Story.ofNew().say(6).play();
        Edge.due("finishing(-1)", x.finishing(-1), NONE);
        Edge.due("learn(1, 4)", x.learn(1, 4), 1);
        Edge.due("finishing(-1) then", x.finishing(-1), 1);
        Edge.due("learn(1, 4)", x.learn(1, 4), 0);
        Edge.due("finishing(-1) then", x.finishing(-1), NONE);
    }

    private static void undo() {
        Edge.still(Story.ofNew(), "undo() of none", TwoMayors::undo, NO);
        Edge.still(Story.ofNew().say(0).undo(), "undo() of none more", TwoMayors::undo, NO);
        Edge.still(Story.ofNew().keep().seen(0, 1).write("w").wipe(), "undo() of what is no act", TwoMayors::undo, NO);
        Edge.still(Boroughs.midway().back(), "undo() behind back()", TwoMayors::undo, NO);
        Edge.still(Boroughs.brimful().lay(), "undo() behind lay()", TwoMayors::undo, NO);
        Edge.due("undo() of 1", Story.ofNew().say(0).play().undo(), 0);
        Edge.due("undo() of 8", Boroughs.brimful().play().undo(), 7);
        // Each act is taken back whole, as if it had never been.
        Story story = Story.ofNew().learn(1, 0).seen(0, 1).say(5).keep().say(3);
        Edge.alike("say", story.say(2).undo(), story);
        Edge.alike("end", story.end().undo(), story);
        Edge.alike("finish", story.finish().undo(), story);
        Edge.alike("drop", story.drop().undo(), story);
        Edge.alike("learn", story.learn(1, 6).undo(), story);
        Edge.alike("forget", story.learn(1, 0).undo(), story);
        Edge.alike("several", story.finish().learn(0, 0).say(3).end().undo().undo().undo().undo(), story);
        // What is no act stands as it is.
        TwoMayors x = story.finish().seen(1, 1).keep().write("w0").undo().play();
        Edge.counts(x, 7, 2, 2, 0, 0, 2, 2, 3, 2, 2);
    }

    private static void allButSeen() {
        Story story = Story.ofNew().learn(1, 0).say(0).finish().seen(0, 1).say(5, 3).keep();
        Story gone = story.finish().learn(0, 6).learn(1, 3).say(3).end().say(6).drop().say(2);
        Edge.alike("all as it stood", gone.back(), story.back());
        Edge.alike("the sentence as it stood", story.say(2, 4).end().back(), story.back());
        Edge.alike("what is SEEN is not KEPT", gone.seen(1, 0).back(), story.seen(1, 0).back());
        Edge.alike("what is forgotten stays so", gone.forget().back(), story.forget().back());
        TwoMayors x = gone.seen(1, 0).back().play();
        Edge.counts(x, 7, 5, 2, 1, 1, 2, 2, 0, 0, 0);
        Edge.mayor(x, 0, 0, 0, 0, 24);
        Edge.mayor(x, 1, 1, 1, 6, 11);
    }

    private static void keep() {
        Story story = Story.ofNew();
        Edge.due("keep()", story.play().keep(), 1);
        Edge.due("keep() of the same", story.keep().play().keep(), 2);
        Edge.still(story.keep().keep(), "keep() of 3", TwoMayors::keep, FULL);
        Edge.still(Boroughs.brimful(), "keep() of 3", TwoMayors::keep, FULL);
        Edge.due("keep() behind back()", Boroughs.brimful().back().play().keep(), 2);
        Edge.due("keep() behind two", Boroughs.brimful().back().back().play().keep(), 1);
        Edge.due("keep() behind lay()", Boroughs.brimful().lay().play().keep(), 1);
        // What is kept takes nothing of what can be undone.
        TwoMayors x = Story.ofNew().say(0).keep().play();
        Edge.counts(x, 7, 1, 1, 0, 0, 2, 0, 1, 1);
        Edge.due("undo()", x.undo(), 0);
        Edge.due("KEPT then", x.count(8), 1);
        Edge.due("back() then", x.back(), 0);
        Edge.due("said(0)", x.said(0), 0);
    }

    private static void back() {
        Edge.still(Story.ofNew(), "back() of none", TwoMayors::back, NO);
        Edge.still(Story.ofNew().say(0, 1).learn(0, 0), "back() of none", TwoMayors::back, NO);
        Edge.still(Boroughs.brimful().back().back().say(3), "back() of none left", TwoMayors::back, NO);
        Edge.still(Boroughs.brimful().lay(), "back() behind lay()", TwoMayors::back, NO);
        TwoMayors x = Boroughs.brimful().play();
        Edge.due("back() of 2", x.back(), 1);
        Edge.counts(x, 10, 9, 9, 0, 0, 2, 8, 0, 1, 200);
        Edge.due("undo() then", x.undo(), NO);
        Edge.due("back() of 1", x.back(), 0);
        Edge.counts(x, 10, 2, 2, 0, 0, 2, 8, 0, 0, 200);
        Edge.due("undo() then", x.undo(), NO);
        Edge.due("back() of 0", x.back(), NO);
        Edge.counts(x, 10, 2, 2, 0, 0, 2, 8, 0, 0, 200);
        // The same place is used time and again.
        Story story = Story.ofNew();
        for (int w = 0; w < 7; w++) {
            story = story.keep().say(w).keep().drop().back();
            Edge.due("KEPT last", story.play().said(0), w);
            story = story.back();
            Edge.due("KEPT ahead of it", story.play().said(0), NONE);
        }
        Edge.alike("as at first", story, Story.ofNew());
    }

    private static void count() {
        for (Story story : Boroughs.threeStories()) {
            for (int what : Edge.outside(0, 9)) {
                Edge.still(story, "count(" + what + ")", t -> t.count(what), BAD);
            }
        }
        for (int what = 0; what < 10; what++) {
            int asked = what;
            int[] least = {7, 0, 0, 0, 0, 2, 0, 0, 0, 0};
            int[] most = {10, 12, 12, 0, 0, 2, 8, 8, 2, 200};
            Edge.still(Story.ofNew(), "count(" + what + ")", t -> t.count(asked), least[what]);
            Edge.still(Boroughs.brimful(), "count(" + what + ")", t -> t.count(asked), most[what]);
        }
        Edge.counts(Boroughs.midway().play(), 7, 5, 2, 1, 1, 2, 2, 5, 1, 6);
        Edge.counts(Story.of("w0,0;l1;").play(), 1, 0, 0, 0, 0, 1, 0, 0, 0, 8);
    }

    /** The last word there is, and the one next to it, for every call that takes a word. */
    private static void suchAsThereAre() {
        for (int words = 1; words <= 10; words++) {
            // A borough of more words ahead of it leaves none of them behind.
            Story story = Story.of(Boroughs.OF_200_LETTERS).wipe().write("w2,3;".repeat(words)).then(TwoMayors::lay);
            if (words > 1) {
                takenAsWord(story.play(), words - 2, true);
            }
            takenAsWord(story.play(), words - 1, true);
            takenAsWord(story.play(), words, false);
            takenAsWord(story.play(), -1, false);
        }
        for (int m = -1; m <= 2; m++) {
            boolean is = m == 0 || m == 1;
            Edge.due("mayor(" + m + ", 3)", new TwoMayors().mayor(m, 3), is ? m == 0 ? 24 : 10 : BAD);
            Edge.due("learn(" + m + ", 0)", new TwoMayors().learn(m, 0), is ? 1 : BAD);
        }
    }

    private static void takenAsWord(TwoMayors x, int w, boolean is) {
        Edge.due("word(" + w + ", 1)", x.word(w, 1), is ? 3 : BAD);
        Edge.due("learn(1, " + w + ")", x.learn(1, w), is ? 1 : BAD);
        Edge.due("safe(" + w + ", 0)", x.safe(w, 0), is ? w : BAD);
        Edge.due("lure(" + w + ", -1)", x.lure(w, -1), is ? NONE : BAD);
        Edge.due("sitting(" + w + ")", x.sitting(w), is ? 2 : BAD);
        Edge.due("seen(" + w + ", 0)", x.seen(w, 0), is ? 1 : BAD);
        Edge.due("say(" + w + ")", x.say(w), is ? 1 : BAD);
    }

    /** Where more than one answer could be: the one that is told ahead. */
    private static void ofSeveral() {
        Story full = Boroughs.brimful();
        Edge.still(full, "write(31) of 201: BAD, not FULL", t -> t.write(31), BAD);
        Edge.still(full, "write(127) of 201: BAD, not FULL", t -> t.write(127), BAD);
        Edge.still(full, "say(10) as the 13th: BAD, not FULL", t -> t.say(10), BAD);
        Edge.still(full, "say(-1) as the 13th: BAD, not NO", t -> t.say(-1), BAD);
        Edge.still(full, "say(9) as the 13th: NO, not FULL", t -> t.say(9), NO);
        Edge.still(full, "seen(10, 0) of 9: BAD, not FULL", t -> t.seen(10, 0), BAD);
        Edge.still(full, "seen(0, 2) of 9: BAD, not FULL", t -> t.seen(0, 2), BAD);
        Edge.still(full, "finishing(4) of none: BAD, not NONE", t -> t.finishing(4), BAD);
        Edge.still(full, "finishing(-2) of none: BAD, not NONE", t -> t.finishing(-2), BAD);
        Story none = Story.of("w0,0;").seen(0, 1);
        Edge.still(none, "safe(0, 10) of none: BAD, not NONE", t -> t.safe(0, 10), BAD);
        Edge.still(none, "safe(0, -2) of none: BAD, not NONE", t -> t.safe(0, -2), BAD);
        Edge.still(none, "best(1, 10) of none: BAD, not NONE", t -> t.best(1, 10), BAD);
        Edge.still(none, "best(1, -3) of none: BAD, not NONE", t -> t.best(1, -3), BAD);
        Edge.still(none, "lure(0, 10) of none: BAD, not NONE", t -> t.lure(0, 10), BAD);
        Edge.still(none, "lure(0, -2) of none: BAD, not NONE", t -> t.lure(0, -2), BAD);
        Edge.still(none, "guessed(3) of none: BAD, not NONE", t -> t.guessed(3), BAD);
        Edge.still(none, "guessed(-1) of none: BAD, not NONE", t -> t.guessed(-1), BAD);
        Edge.still(none, "said(-1) of none: BAD, not NONE", t -> t.said(-1), BAD);
    }
}
