/** Boundary cases of texts and boroughs: chapter 1 of the document and promises 1 to 8, sentence by sentence. */
public final class TextEdgesTest {
    private static final int BAD = Edge.BAD, NO = Edge.NO, FULL = Edge.FULL, NONE = Edge.NONE;
    private static final String TWO_PLAIN = "w0,0;w0,0;";

    private TextEdgesTest() {
    }

    public static void main(String[] args) {
        chapterOne();
        promises();
        Check.close();
    }

    private static void chapterOne() {
        Edge.sentence("A TEXT is letters (200 at most)", TextEdgesTest::lettersAtMost);
        Edge.sentence("each a letter, then numbers (one or two figures)", TextEdgesTest::figures);
        Edge.sentence("numbers (one or two figures) parted by , and a ; behind the last one", TextEdgesTest::signs);
        Edge.sentence("parted by , and a ; behind the last one", TextEdgesTest::howManyNumbers);
        Edge.sentence("a WORD of KIND K (0 PLAIN, 1 ADJECTIVE, 2 STOP, 3 PROVERB)", TextEdgesTest::kinds);
        Edge.sentence("WORTH C (0 to 9)", TextEdgesTest::worths);
        Edge.sentence("10 at most, 0, 1, ..", TextEdgesTest::tenWords);
        Edge.sentence("gA,B WORD B may come BEHIND WORD A (both told ahead, alike, too; no matter if told once more)",
            TextEdgesTest::behind);
        Edge.sentence("kM,A MAYOR M (0, 1) KNOWS WORD A (told ahead; no matter if told once more)", TextEdgesTest::knows);
        Edge.sentence("lL a FINISHING is of L (1 to 4) WORDS at most (2 without; the last one)", TextEdgesTest::longest);
        Edge.sentence("cM MAYOR M has the CHAIN at first (0 without; the last one)", TextEdgesTest::chain);
        Edge.sentence("FAULT: the place of the first letter of the first ITEM that is not so.", TextEdgesTest::places);
        Edge.sentence("An object is used for at most 512 calls after it has been made", TextEdgesTest::allCalls);
        Edge.sentence("LAID is a TEXT without FAULT, of a WORD at least (NO else; at first " + Boroughs.AT_FIRST + ").",
            TextEdgesTest::laidAtFirst);
    }

    private static void promises() {
        Edge.sentence("`TwoMayors()`: As told.", TextEdgesTest::newObject);
        Edge.sentence("A letter (32 to 126, as in ASCII) comes behind THE TEXT: how long it is. BAD; FULL.", TextEdgesTest::write);
        Edge.sentence("THE TEXT is empty: how long it was.", TextEdgesTest::wipe);
        Edge.sentence("`int fault()`: FAULT. NONE.", TextEdgesTest::fault);
        Edge.sentence("LAID: how many WORDS; MINUTE 0, THE SENTENCE empty, no DECREES, nothing GAINED, SEEN, UNDONE, KEPT. NO.",
            TextEdgesTest::lay);
        Edge.sentence("KIND (what = 0), WORTH (1), which may come BEHIND it (2; bits), MAYORS that KNOW it (3; bits). BAD.",
            TextEdgesTest::word);
        Edge.sentence("1 if he has the CHAIN (what = 0), DECREES (1), what he has GAINED (2), WORDS he KNOWS (3; bits). BAD.",
            TextEdgesTest::mayor);
        Edge.sentence("The k-th WORD of THE SENTENCE (0 first). NONE (there are not so many); BAD.", TextEdgesTest::said);
    }

    private static void fault(String text, int place) {
        Edge.due("fault() of " + text, Story.ofNew().write(text).play().fault(), place);
    }

    private static void lettersAtMost() {
        Edge.due("letters at first", new TwoMayors().count(9), 0);
        TwoMayors x = new TwoMayors();
        for (int i = 1; i <= 200; i++) {
            Edge.due("the " + i + ". letter", x.write('w'), i);
        }
        Edge.due("the 201st letter", x.write('w'), FULL);
        Edge.due("wipe()", x.wipe(), 200);
        Edge.due("a letter then", x.write('w'), 1);
        Edge.due("lay() of 200 letters", Story.ofNew().write(Boroughs.OF_200_LETTERS).play().lay(), 10);
        Edge.due("letters of it", Story.of(Boroughs.OF_200_LETTERS).play().count(9), 200);
        // The 201st letter is no part of the text: without it the last item has no end.
        Story cut = Story.ofNew().write(Boroughs.TEN_PLAIN + "l1;".repeat(47) + "g0,09;c1").then(t -> t.write('1'));
        Edge.due("letters of a text that runs over", cut.play().count(9), 200);
        Edge.due("fault() of a text that runs over", cut.then(t -> t.write(';')).play().fault(), 197);
    }

    private static void figures() {
        for (String item : new String[] {"w#,0;", "w0,#;", "g#,0;", "g0,#;", "k#,0;", "k0,#;", "l#;", "c#;"}) {
            for (String good : new String[] {"1", "01"}) {
                fault(TWO_PLAIN + item.replace("#", good), NONE);
            }
            for (String wrong : new String[] {"", "001", "0001", "100", "a", "1a", "a1", "-1", "+1", " 1", "1 ", "1.", "0 1"}) {
                fault(TWO_PLAIN + item.replace("#", wrong), 10);
            }
        }
        TwoMayors x = Story.of("w03,09;w00,00;w3,09;w03,9;g03,01;k01,02;l04;c01;").play();
        Edge.due("KIND of 03", x.word(0, 0), 3);
        Edge.due("WORTH of 09", x.word(0, 1), 9);
        Edge.due("KIND of 00", x.word(1, 0), 0);
        Edge.due("WORTH of 00", x.word(1, 1), 0);
        Edge.due("BEHIND 03", x.word(3, 2), 2);
        Edge.due("MAYORS that KNOW 02", x.word(2, 3), 2);
        Edge.due("L of 04", x.count(5), 4);
        Edge.due("CHAIN of 01", x.mayor(1, 0), 1);
    }

    /** Every sign there is, in every place of an item. */
    private static void signs() {
        everySign("", "w0,0;", "w", "0123", ",", "0123456789", ";");
        everySign(TWO_PLAIN, "g1,1;", "gkw", "01", ",", "01", ";");
        everySign(TWO_PLAIN, "k1,1;", "gkw", "01", ",", "01", ";");
        everySign(TWO_PLAIN, "l2;", "l", "1234", ";");
        everySign(TWO_PLAIN, "c0;", "c", "01", ";");
    }

    private static void everySign(String ahead, String item, String... good) {
        for (int i = 0; i < good.length; i++) {
            for (char sign = 32; sign <= 126; sign++) {
                String spoilt = item.substring(0, i) + sign + item.substring(i + 1);
                fault(ahead + spoilt, good[i].indexOf(sign) >= 0 ? NONE : ahead.length());
            }
        }
    }

    private static void howManyNumbers() {
        for (String wrong : new String[] {"w", "w;", "w0;", "w0,;", "w,0;", "w,;", "w0,0", "w0,", "w0", "w0,0,;", "w0,0,0;", "w0;0;",
            "w0,,0;", "w00;", "w0,0:", "g;", "g0;", "g0,0,0;", "g0,0,;", "k;", "k0;", "k0,0,0;", "k0,0,;", "l;", "l", "l1", "l1,",
            "l1,;", "l1,1;", "l,1;", "c;", "c", "c1", "c1,", "c1,;", "c0,0;", "c,0;", ";", ",", "0", "0;", " "}) {
            fault(TWO_PLAIN + wrong, 10);
            fault(TWO_PLAIN + wrong + "w0,0;", 10);
        }
    }

    private static void kinds() {
        for (int kind = 0; kind < 100; kind++) {
            fault("w" + kind + ",0;", kind <= 3 ? NONE : 0);
            fault("w0,0;w" + kind + ",0;", kind <= 3 ? NONE : 5);
        }
        for (int kind = 0; kind <= 3; kind++) {
            Edge.due("KIND of w" + kind + ",0;", Story.of("w" + kind + ",0;").play().word(0, 0), kind);
        }
    }

    private static void worths() {
        for (int worth = 0; worth < 100; worth++) {
            fault("w0," + worth + ";", worth <= 9 ? NONE : 0);
        }
        for (int worth = 0; worth <= 9; worth++) {
            Edge.due("WORTH of w0," + worth + ";", Story.of("w0," + worth + ";").play().word(0, 1), worth);
        }
    }

    private static void tenWords() {
        for (int words = 1; words <= 10; words++) {
            String text = Boroughs.TEN_PLAIN.substring(0, words * 5);
            fault(text, NONE);
            TwoMayors x = Story.of(text).play();
            Edge.due("WORDS", x.count(0), words);
            for (int w = 0; w < words; w++) {
                Edge.due("WORTH of " + w + " of " + words, x.word(w, 1), w);
            }
            Edge.due("the word behind the last one", x.word(words, 1), BAD);
        }
        fault(Boroughs.TEN_PLAIN + "w0,0;", 50);
        fault(Boroughs.TEN_PLAIN + "l2;w0,0;", 53);
        Edge.still(Story.ofNew().write(Boroughs.TEN_PLAIN + "w0,0;"), "lay() of 11 words", TwoMayors::lay, NO);
    }

    private static void behind() {
        for (int words = 1; words <= 10; words++) {
            String text = Boroughs.TEN_PLAIN.substring(0, words * 5);
            for (int a = 0; a <= 99; a += a <= 10 ? 1 : 11) {
                fault(text + "g" + a + ",0;", a < words ? NONE : words * 5);
                fault(text + "g0," + a + ";", a < words ? NONE : words * 5);
                fault(text + "g" + a + "," + a + ";", a < words ? NONE : words * 5);
            }
        }
        fault("g0,0;w0,0;", 0);
        fault("w0,0;g0,1;w0,0;", 5);
        fault("w0,0;g1,0;w0,0;", 5);
        TwoMayors none = Story.of("w0,0;w0,0;").play();
        Edge.due("none may come BEHIND", none.word(0, 2), 0);
        TwoMayors alike = Story.of("w0,0;g0,0;").play();
        Edge.due("alike", alike.word(0, 2), 1);
        TwoMayors twice = Story.of("w0,0;w0,0;g0,1;g0,1;g0,1;g0,0;g0,1;").play();
        Edge.due("told once more", twice.word(0, 2), 3);
        Edge.due("not the other way", twice.word(1, 2), 0);
        TwoMayors ends = Story.of(Boroughs.TEN_PLAIN + "g9,0;g0,9;g9,9;").play();
        Edge.due("BEHIND the last one", ends.word(9, 2), 513);
        Edge.due("BEHIND the first one", ends.word(0, 2), 512);
    }

    private static void knows() {
        for (int words = 1; words <= 10; words++) {
            String text = Boroughs.TEN_PLAIN.substring(0, words * 5);
            for (int a = 0; a <= 99; a += a <= 10 ? 1 : 11) {
                fault(text + "k0," + a + ";", a < words ? NONE : words * 5);
                fault(text + "k1," + a + ";", a < words ? NONE : words * 5);
                fault(text + "k" + a + ",0;", a <= 1 ? NONE : words * 5);
            }
        }
        fault("k0,0;w0,0;", 0);
        fault("w0,0;k0,1;w0,0;", 5);
        TwoMayors none = Story.of("w0,0;").play();
        Edge.due("KNOWS none", none.mayor(0, 3), 0);
        Edge.due("KNOWS none", none.mayor(1, 3), 0);
        TwoMayors twice = Story.of(Boroughs.TEN_PLAIN + "k0,9;k0,9;k1,0;k0,9;k1,0;k1,9;").play();
        Edge.due("told once more", twice.mayor(0, 3), 512);
        Edge.due("told once more", twice.mayor(1, 3), 513);
    }

    private static void longest() {
        for (int most = 0; most < 100; most++) {
            fault("w0,0;l" + most + ";", most >= 1 && most <= 4 ? NONE : 5);
        }
        Edge.due("L without", Story.of("w0,0;").play().count(5), 2);
        Edge.due("L without, behind another borough", Story.of("w0,0;l4;").wipe().write("w0,0;").lay().play().count(5), 2);
        for (int most = 1; most <= 4; most++) {
            Edge.due("L", Story.of("w0,0;l" + most + ";").play().count(5), most);
            Edge.due("the last L", Story.of("l" + (5 - most) + ";w0,0;l2;l" + most + ";").play().count(5), most);
        }
        fault("l5;w0,0;l1;", 0);
    }

    private static void chain() {
        for (int m = 0; m < 100; m++) {
            fault("w0,0;c" + m + ";", m <= 1 ? NONE : 5);
        }
        Edge.due("CHAIN without", Story.of("w0,0;").play().mayor(0, 0), 1);
        Edge.due("CHAIN without, behind another borough", Story.of("w0,0;c1;").wipe().write("w0,0;").lay().play().mayor(0, 0), 1);
        for (int m = 0; m <= 1; m++) {
            TwoMayors x = Story.of("w0,0;c" + m + ";").play();
            Edge.due("he has it", x.mayor(m, 0), 1);
            Edge.due("the other one has it not", x.mayor(1 - m, 0), 0);
            Edge.due("the last one", Story.of("c" + m + ";w0,0;c" + (1 - m) + ";c" + m + ";").play().mayor(m, 0), 1);
        }
        fault("c2;w0,0;c1;", 0);
    }

    private static void places() {
        fault("x", 0);
        fault("w0,0;x", 5);
        fault("w0,0;w0,0;x;w9,9;y", 10);
        fault("w4,0;w4,0;", 0);
        fault("l1;c1;w3,9;g0,0;k1,0;w0,10;l0;", 21);
        // Just one letter, at the last place of a full text.
        String letters199 = Boroughs.TEN_PLAIN + "l1;".repeat(48) + "g0,0;";
        fault(letters199, NONE);
        fault(letters199 + "w", 199);
        fault(letters199 + ";", 199);
        fault("l1;".repeat(66), NONE);
        fault("l1;".repeat(66) + "l1", 198);
        fault("l1;".repeat(65) + "c1;c2", 198);
        fault("l1;".repeat(65) + "c2;c1", 195);
    }

    /** 512 calls in all, the last ones of which are checked: nothing runs over on the way. */
    private static void allCalls() {
        TwoMayors x = new TwoMayors();
        int calls = 0;
        for (char letter : "w2,9;g0,0;k0,0;k1,0;l4;".toCharArray()) {
            x.write(letter);
            calls++;
        }
        x.lay();
        calls++;
        int finished = 0;
        while (calls + 13 <= 500) {
            for (int i = 0; i < 12; i++) {
                x.say(0);
            }
            x.finish();
            calls += 13;
            finished++;
        }
        while (calls < 504) {
            x.write(' ');
            calls++;
        }
        Edge.due("finished so often", finished, 36);
        Edge.due("MINUTE", x.count(1), 36 * 13);
        Edge.due("DECREES", x.count(3), 36);
        Edge.due("how often the CHAIN went over", x.count(4), 36);
        Edge.due("GAINED by 0", x.mayor(0, 2), 18 * 117);
        Edge.due("GAINED by 1", x.mayor(1, 2), 18 * 117);
        Edge.due("DECREES of a council", x.council(0, 1, 1), 36);
        Edge.due("undo()", x.undo(), 7);
        Edge.due("the 512th call", x.count(2), 12);
    }

    private static void laidAtFirst() {
        Edge.alike("a new borough and the text laid", Story.of(Boroughs.AT_FIRST).wipe(), Story.ofNew());
        for (Story story : Boroughs.threeStories()) {
            for (String text : new String[] {"", "l2;", "c0;", "l1;c1;", "w4,0;", "w0,0", "w0,0;x", "l5;w0,0;"}) {
                Edge.still(story.wipe().write(text), "lay() of '" + text + "'", TwoMayors::lay, NO);
            }
            Edge.due("lay() of one word", story.wipe().write("w0,0;").play().lay(), 1);
        }
        // What was read ahead of a fault must not come into what is laid then.
        Story spoilt = Story.ofNew().write("w2,9;w2,9;g0,1;g1,0;k0,0;k1,1;l4;c1;x").then(TwoMayors::lay).then(TwoMayors::fault).wipe();
        Edge.alike("behind a text with a fault", spoilt.write("w0,0;w0,1;").lay(), Story.of("w0,0;w0,1;"));
        Story twice = Story.of("w1,9;w2,9;w3,9;g0,1;g2,1;k1,1;l1;").lay().wipe();
        String otherKinds = "w0,1;w2,2;w0,3;g0,1;g2,1;k1,1;";
        Edge.alike("behind a text of other kinds", twice.write(otherKinds).lay(), Story.of(otherKinds));
        String noStops = "w3,1;w0,2;w1,3;g0,1;g2,1;k1,1;";
        Edge.alike("behind a text with a stop", twice.write(noStops).lay(), Story.of(noStops));
    }

    private static void newObject() {
        TwoMayors x = new TwoMayors();
        Edge.counts(x, 7, 0, 0, 0, 0, 2, 0, 0, 0, 0);
        Edge.mayor(x, 0, 1, 0, 0, 24);
        Edge.mayor(x, 1, 0, 0, 0, 10);
        Story fresh = Story.ofNew();
        Edge.still(fresh, "undo()", TwoMayors::undo, NO);
        Edge.still(fresh, "back()", TwoMayors::back, NO);
        Edge.still(fresh, "end()", TwoMayors::end, NO);
        Edge.still(fresh, "finish()", TwoMayors::finish, NO);
        Edge.still(fresh, "drop()", TwoMayors::drop, NO);
        Edge.still(fresh, "lay()", TwoMayors::lay, NO);
        Edge.still(fresh, "wipe()", TwoMayors::wipe, 0);
        Edge.still(fresh, "forget()", TwoMayors::forget, 0);
        Edge.still(fresh, "fault()", TwoMayors::fault, NONE);
        Edge.still(fresh, "said(0)", t -> t.said(0), NONE);
        Edge.still(fresh, "finishing(-1)", t -> t.finishing(-1), NONE);
    }

    private static void write() {
        for (int letter = -300; letter <= 700; letter++) {
            int sign = letter;
            int want = letter >= 32 && letter <= 126 ? 1 : BAD;
            Edge.due("write(" + letter + ")", new TwoMayors().write(sign), want);
        }
        for (Story story : Boroughs.threeStories()) {
            for (int letter : new int[] {31, 127, 0, -1, 256 + 'w', 65536 + 'w', Edge.LEAST, Edge.LEAST + 'w', Edge.MOST}) {
                Edge.still(story, "write(" + letter + ")", t -> t.write(letter), BAD);
            }
        }
        for (int letter : new int[] {32, 126, 'w'}) {
            Edge.still(Boroughs.brimful(), "write(" + letter + ") of 201", t -> t.write(letter), FULL);
        }
        Edge.due("write(32) of 200", Story.ofNew().write("w".repeat(199)).play().write(32), 200);
        Edge.due("write(126) of 200", Story.ofNew().write("w".repeat(199)).play().write(126), 200);
        // Letters come behind the text, in their order, and change nothing else.
        Edge.due("letters in their order", Story.ofNew().write("w0,0").write(";").play().lay(), 1);
        Edge.alike("written, not laid", Story.ofNew().write("w0,0;l4;c1;").wipe(), Story.ofNew());
    }

    private static void wipe() {
        Edge.due("wipe() of 1", Story.ofNew().write("w").play().wipe(), 1);
        Edge.due("wipe() of 199", Story.ofNew().write("w".repeat(199)).play().wipe(), 199);
        Edge.due("wipe() of 200", Boroughs.brimful().play().wipe(), 200);
        for (Story story : Boroughs.threeStories()) {
            Story wiped = story.wipe();
            Edge.due("letters then", wiped.play().count(9), 0);
            Edge.due("fault() then", wiped.play().fault(), NONE);
            Edge.still(wiped, "wipe() of none", TwoMayors::wipe, 0);
            Edge.still(wiped, "lay() of none", TwoMayors::lay, NO);
            Edge.due("a letter then", wiped.play().write('w'), 1);
        }
        // Nothing but the text is emptied.
        TwoMayors x = Boroughs.brimful().wipe().play();
        Edge.counts(x, 10, 12, 12, 0, 0, 2, 8, 8, 2, 0);
    }

    private static void fault() {
        Edge.still(Story.ofNew().write("w0,0;"), "fault() of a good text", TwoMayors::fault, NONE);
        Edge.still(Story.ofNew().write("w0,0;w4,0;"), "fault()", TwoMayors::fault, 5);
        Edge.still(Boroughs.midway(), "fault()", TwoMayors::fault, 5);
        Edge.still(Boroughs.brimful(), "fault() of 200 letters", TwoMayors::fault, NONE);
        // Reading a good text for its faults lays nothing.
        Edge.still(Boroughs.midway().wipe().write("w2,9;w2,9;g0,1;k0,1;l4;c1;"), "fault() of another borough", TwoMayors::fault, NONE);
    }

    private static void lay() {
        for (Story story : Boroughs.threeStories()) {
            Story laid = story.wipe().write("w2,7;w3,9;g1,0;k1,0;k0,1;l4;c1;").lay();
            TwoMayors x = laid.play();
            Edge.counts(x, 2, 0, 0, 0, 0, 4, 0, 0, 0, 31);
            Edge.mayor(x, 0, 0, 0, 0, 2);
            Edge.mayor(x, 1, 1, 0, 0, 1);
            Edge.due("undo() then", x.undo(), NO);
            Edge.due("back() then", x.back(), NO);
            Edge.due("forget() then", x.forget(), 0);
            Edge.due("guessed(0) then", x.guessed(0), 4);
            Edge.due("said(0) then", x.said(0), NONE);
            Edge.alike("nothing of the former borough is left", laid, Story.of("w2,7;w3,9;g1,0;k1,0;k0,1;l4;c1;"));
        }
        Edge.due("lay() of 1 word", Story.ofNew().write("w0,0;").play().lay(), 1);
        Edge.due("lay() of 10 words", Story.ofNew().write(Boroughs.TEN_PLAIN).play().lay(), 10);
        Edge.alike("laid once more", Boroughs.brimful().lay(), Story.of(Boroughs.OF_200_LETTERS));
        // What has been learnt or said since is gone when the same text is laid once more.
        Story text = Story.of("w2,7;w0,9;g1,0;k1,0;l4;c1;");
        Edge.alike("laid once more", text.learn(0, 0).learn(1, 0).say(1, 0).end().keep().seen(0, 0).lay(), text);
    }

    private static void word() {
        Story[] stories = Boroughs.threeStories();
        for (int i = 0; i < stories.length; i++) {
            int words = Boroughs.wordsOfThree()[i];
            for (int w : Edge.noWords(words)) {
                Edge.still(stories[i], "word(" + w + ", 0)", t -> t.word(w, 0), BAD);
                Edge.still(stories[i], "word(" + w + ", 3)", t -> t.word(w, 3), BAD);
                Edge.due("word(" + w + ", 4)", stories[i].play().word(w, 4), BAD);
            }
            for (int what : Edge.outside(0, 3)) {
                Edge.still(stories[i], "word(0, " + what + ")", t -> t.word(0, what), BAD);
                Edge.still(stories[i], "word(last, " + what + ")", t -> t.word(words - 1, what), BAD);
            }
        }
        Edge.still(Story.ofNew(), "word(0, 0)", t -> t.word(0, 0), 0);
        Edge.still(Story.ofNew(), "word(0, 3)", t -> t.word(0, 3), 0);
        Edge.still(Story.ofNew(), "word(6, 0)", t -> t.word(6, 0), 0);
        Edge.still(Story.ofNew(), "word(6, 3)", t -> t.word(6, 3), 0);
        Edge.still(Boroughs.brimful(), "word(9, 0)", t -> t.word(9, 0), 2);
        Edge.still(Boroughs.brimful(), "word(9, 1)", t -> t.word(9, 1), 9);
        Edge.still(Boroughs.brimful(), "word(9, 2)", t -> t.word(9, 2), 512 + 1 + 2);
        Edge.still(Boroughs.brimful(), "word(9, 3)", t -> t.word(9, 3), 0);
        // All of the bits, and none.
        TwoMayors all = Story.of(Boroughs.TEN_PLAIN + "g0,0;g0,1;g0,2;g0,3;g0,4;g0,5;g0,6;g0,7;g0,8;g0,9;k0,0;k1,0;").play();
        Edge.due("all BEHIND", all.word(0, 2), 1023);
        Edge.due("both KNOW it", all.word(0, 3), 3);
        Edge.due("none BEHIND", all.word(9, 2), 0);
        Edge.due("none KNOWS it", all.word(9, 3), 0);
        Edge.due("MAYOR 0 alone", Story.of("w0,0;k0,0;").play().word(0, 3), 1);
        Edge.due("MAYOR 1 alone", Story.of("w0,0;k1,0;").play().word(0, 3), 2);
        Edge.due("learnt", Story.of("w0,0;").learn(1, 0).play().word(0, 3), 2);
        Edge.due("forgotten", Story.of("w0,0;k0,0;k1,0;").learn(1, 0).play().word(0, 3), 1);
    }

    private static void mayor() {
        for (Story story : Boroughs.threeStories()) {
            for (int m : Edge.outside(0, 1)) {
                Edge.still(story, "mayor(" + m + ", 0)", t -> t.mayor(m, 0), BAD);
                Edge.still(story, "mayor(" + m + ", 3)", t -> t.mayor(m, 3), BAD);
                Edge.due("mayor(" + m + ", 4)", story.play().mayor(m, 4), BAD);
            }
            for (int what : Edge.outside(0, 3)) {
                Edge.still(story, "mayor(0, " + what + ")", t -> t.mayor(0, what), BAD);
                Edge.still(story, "mayor(1, " + what + ")", t -> t.mayor(1, what), BAD);
            }
        }
        Edge.mayor(Boroughs.brimful().play(), 0, 1, 0, 0, 0);
        Edge.mayor(Boroughs.midway().play(), 1, 1, 1, 6, 11);
        Edge.still(Boroughs.midway(), "mayor(1, 0)", t -> t.mayor(1, 0), 1);
        Edge.still(Boroughs.midway(), "mayor(1, 3)", t -> t.mayor(1, 3), 11);
        Story all = Story.of(Boroughs.TEN_PLAIN);
        for (int w = 0; w < 10; w++) {
            all = all.learn(1, w);
        }
        Edge.mayor(all.play(), 0, 1, 0, 0, 0);
        Edge.mayor(all.play(), 1, 0, 0, 0, 1023);
    }

    private static void said() {
        for (Story story : Boroughs.threeStories()) {
            for (int k : new int[] {-1, -2, -12, -4, Edge.LEAST, Edge.LEAST + 1}) {
                Edge.still(story, "said(" + k + ")", t -> t.said(k), BAD);
            }
        }
        Edge.still(Story.ofNew(), "said(0) of none", t -> t.said(0), NONE);
        Edge.still(Story.ofNew().say(6), "said(0) of 1", t -> t.said(0), 6);
        Edge.still(Story.ofNew().say(6), "said(1) of 1", t -> t.said(1), NONE);
        int[] words = {0, 1, 3, 4, 5, 5, 6, 8, 9, 0, 0, 2};
        for (int k = 0; k < 12; k++) {
            Edge.due("said(" + k + ") of 12", Boroughs.brimful().play().said(k), words[k]);
        }
        Edge.still(Boroughs.brimful(), "said(11) of 12", t -> t.said(11), 2);
        Edge.still(Story.ofNew().say(3, 2, 3, 2, 3, 2, 3, 2, 3, 2, 3), "said(11) of 11", t -> t.said(11), NONE);
        // No greatest number is told here: there are not so many.
        for (int k : new int[] {12, 13, 32, 256, Edge.MOST}) {
            Edge.still(Boroughs.brimful(), "said(" + k + ") of 12", t -> t.said(k), NONE);
            Edge.still(Story.ofNew(), "said(" + k + ") of none", t -> t.said(k), NONE);
        }
        Edge.due("said(0) of one dropped", Story.ofNew().say(0).drop().play().said(0), NONE);
        Edge.due("said(0) of one ended", Story.ofNew().say(3).end().play().said(0), NONE);
        Edge.due("said(0) of one finished", Story.ofNew().say(0).finish().play().said(0), NONE);
        Edge.due("said(1) of a shorter one then", Story.ofNew().say(0, 1, 3).drop().say(1).play().said(1), NONE);
    }
}
