/** Promise by promise: ordinary inputs, edges and wrong inputs, with answers found by hand (long councils: by the model). */
public final class PromisesTest {
    private static final int BAD = -1, NO = -2, FULL = -3, NONE = -4;
    private static final String TEN_WORDS = "w0,0;w0,1;w0,2;w0,3;w0,4;w0,5;w0,6;w0,7;w0,8;w0,9;";
    private static final String CHAIN_OF_TEN = "g0,1;g1,2;g2,3;g3,4;g4,5;g5,6;g6,7;g7,8;g8,9;";

    private static String at = "";

    private PromisesTest() {
    }

    public static void main(String[] args) {
        acts();
        sentences();
        rest();
        Check.close();
    }

    private static void acts() {
        at = "1 new"; newObject();
        at = "2 write"; write();
        at = "3 wipe"; wipe();
        at = "4 fault"; fault();
        at = "5 lay"; lay();
        at = "6 word"; word();
        at = "7 mayor"; mayor();
        at = "8 said"; said();
        at = "9 say"; say();
        at = "10 end"; end();
        at = "11 finish"; finish();
        at = "12 drop"; drop();
        at = "13 learn"; learn();
        at = "14 undo"; undo();
    }

    private static void sentences() {
        at = "15 finishing"; finishing();
        at = "16 safe"; safe();
        at = "17 best"; best();
        at = "18 lure"; lure();
        at = "19 sitting"; sitting();
        at = "20 ways"; ways();
    }

    private static void rest() {
        at = "21 seen"; seen();
        at = "22 forget"; forget();
        at = "23 guessed"; guessed();
        at = "24 council"; council();
        at = "25 keep"; keep();
        at = "26 back"; back();
        at = "27 count"; count();
    }

    private static void due(String call, int got, int want) {
        Check.due(at + ": " + call, got, want);
    }

    private static void put(TwoMayors x, String text) {
        for (int i = 0; i < text.length(); i++) {
            x.write(text.charAt(i));
        }
    }

    private static TwoMayors written(String text) {
        TwoMayors x = new TwoMayors();
        put(x, text);
        return x;
    }

    private static TwoMayors laid(String text) {
        TwoMayors x = written(text);
        if (x.lay() < 0) {
            throw new IllegalStateException("not laid: " + text);
        }
        return x;
    }

    private static TwoMayors told(TwoMayors x, int... words) {
        for (int w : words) {
            if (x.say(w) < 0) {
                throw new IllegalStateException("can not be said: " + w);
            }
        }
        return x;
    }

    private static void counts(TwoMayors x, int... wanted) {
        for (int what = 0; what < wanted.length; what++) {
            due("count(" + what + ")", x.count(what), wanted[what]);
        }
    }

    private static void dueOfMayor(TwoMayors x, int m, int... wanted) {
        for (int what = 0; what < wanted.length; what++) {
            due("mayor(" + m + ", " + what + ")", x.mayor(m, what), wanted[what]);
        }
    }

    private static void newObject() {
        TwoMayors x = new TwoMayors();
        counts(x, 7, 0, 0, 0, 0, 2, 0, 0, 0, 0);
        int[] kinds = {0, 0, 1, 2, 2, 3, 0};
        int[] worths = {3, 1, 5, 2, 4, 1, 2};
        int[] behind = {6, 72, 24, 4, 0, 8, 17};
        int[] knowers = {0, 2, 0, 3, 1, 0, 0};
        for (int w = 0; w < 7; w++) {
            due("word(" + w + ", 0)", x.word(w, 0), kinds[w]);
            due("word(" + w + ", 1)", x.word(w, 1), worths[w]);
            due("word(" + w + ", 2)", x.word(w, 2), behind[w]);
            due("word(" + w + ", 3)", x.word(w, 3), knowers[w]);
        }
        dueOfMayor(x, 0, 1, 0, 0, 24);
        dueOfMayor(x, 1, 0, 0, 0, 10);
        due("fault()", x.fault(), NONE);
        due("lay()", x.lay(), NO);
        due("undo()", x.undo(), NO);
        due("back()", x.back(), NO);
    }

    private static void write() {
        TwoMayors x = new TwoMayors();
        due("write(31)", x.write(31), BAD);
        due("write(32)", x.write(32), 1);
        due("write(126)", x.write(126), 2);
        due("write(127)", x.write(127), BAD);
        due("write(least)", x.write(Integer.MIN_VALUE), BAD);
        due("write(most)", x.write(Integer.MAX_VALUE), BAD);
        for (int i = 3; i <= 200; i++) {
            due("write(119)", x.write(119), i);
        }
        due("write(119) as the 201st", x.write(119), FULL);
        due("write(127) as the 201st", x.write(127), BAD);
        due("count(9)", x.count(9), 200);
    }

    private static void wipe() {
        TwoMayors x = new TwoMayors();
        due("wipe() of none", x.wipe(), 0);
        put(x, "w0,0;");
        due("wipe()", x.wipe(), 5);
        due("count(9)", x.count(9), 0);
        due("wipe() again", x.wipe(), 0);
        due("fault() of none", x.fault(), NONE);
        counts(x, 7);
        due("write(50)", x.write(50), 1);
    }

    private static void faultOf(String text, int place) {
        due("fault() of " + text, written(text).fault(), place);
    }

    private static void fault() {
        faultOf("", NONE);
        faultOf("w0,0;", NONE);
        faultOf("w3,9;", NONE);
        faultOf("w03,09;", NONE);
        for (String one : new String[] {"w4,0;", "w0,10;", "w000,1;", "w0,001;", "w0,0", "w0,", "w0", "w", "w;", "w0,;",
            "w,0;", "w0;", "w0,0,0;", "w0,0,;", "W0,0;", "x0,0;", " w0,0;", "w 0,0;", "w0 ,0;", "w0,0:", "w-1,0;", "0,0;",
            ";", ",", "g0,0;", "k0,0;", "l0;", "l5;", "l1,1;", "l;", "l1", "l001;", "c2;", "c10;", "c0,0;", "c"}) {
            faultOf(one, 0);
            faultOf("w0,0;w1,1;".concat(one.replace("g0,0;", "g2,0;").replace("k0,0;", "k0,2;")), 10);
        }
        for (String one : new String[] {"l1;", "l4;", "l04;", "c0;", "c1;", "c01;", "l3;c1;l2;c0;"}) {
            faultOf(one, NONE);
        }
        faultOf("w0,0;g0,0;g0,0;k0,0;k0,0;k1,0;", NONE);
        faultOf("w0,0;g0,1;", 5);
        faultOf("w0,0;g1,0;w0,0;", 5);
        faultOf("w0,0;w0,0;g0,1;g1,0;g1,1;", NONE);
        faultOf("w0,0;k2,0;", 5);
        faultOf("w0,0;k0,1;", 5);
        faultOf("w0,0;k1,1;w0,0;", 5);
        faultOf("w0,0; ", 5);
        faultOf("w0,0;;", 5);
        faultOf("w0,0;l2;c1;x;w9,9;", 11);
        faultOf(TEN_WORDS, NONE);
        faultOf(TEN_WORDS.concat("g9,9;k1,9;"), NONE);
        faultOf(TEN_WORDS.concat("g9,10;"), 50);
        faultOf(TEN_WORDS.concat("w0,0;"), 50);
        faultOf(TEN_WORDS.concat("g0,1;".repeat(30)), NONE);
        faultOf(TEN_WORDS.concat("g0,1;".repeat(29)).concat("g0,1,"), 195);
        faultOf(TEN_WORDS.concat("l1;".repeat(50)), NONE);
        faultOf("l1;".repeat(66).concat("l1"), 198);
    }

    private static void lay() {
        TwoMayors x = told(new TwoMayors(), 0);
        x.seen(0, 1);
        x.keep();
        x.finish();
        x.say(1);
        put(x, "w0,0;g0,1;");
        due("lay() with a fault", x.lay(), NO);
        counts(x, 7, 4, 1, 1, 1, 2, 1, 3, 1, 10);
        x.wipe();
        put(x, "l4;c1;");
        due("lay() without a word", x.lay(), NO);
        counts(x, 7, 4, 1, 1, 1, 2, 1, 3, 1, 6);
        dueOfMayor(x, 1, 1, 1, 6, 10);
        put(x, "w2,7;w1,3;g0,1;g1,0;g1,1;k1,1;k0,0;k0,1;");
        due("lay()", x.lay(), 2);
        counts(x, 2, 0, 0, 0, 0, 4, 0, 0, 0, 46);
        dueOfMayor(x, 0, 0, 0, 0, 3);
        dueOfMayor(x, 1, 1, 0, 0, 2);
        due("said(0)", x.said(0), NONE);
        due("word(1, 2)", x.word(1, 2), 3);
        due("word(2, 0)", x.word(2, 0), BAD);
        due("undo()", x.undo(), NO);
        due("back()", x.back(), NO);
        due("forget()", x.forget(), 0);
        due("guessed(0)", x.guessed(0), 4);
        x.say(0);
        due("lay() again", x.lay(), 2);
        counts(x, 2, 0, 0);

        x.wipe();
        put(x, "w0,0;l4;c1;l3;c0;");
        due("lay() of the last l and c", x.lay(), 1);
        counts(x, 1, 0, 0, 0, 0, 3);
        due("mayor(0, 0)", x.mayor(0, 0), 1);
        due("word(0, 2), not as it was laid ahead", x.word(0, 2), 0);
        x.wipe();
        put(x, "w0,0;");
        x.lay();
        counts(x, 1, 0, 0, 0, 0, 2);
        put(x, "c1;");
        x.lay();
        x.wipe();
        put(x, "w0,0;");
        for (int i = 0; i < 3; i++) {
            x.lay();
            due("mayor(0, 0) without c", x.mayor(0, 0), 1);
        }
        due("lay() of 200 letters", laid(TEN_WORDS.concat("g0,1;".repeat(30))).count(0), 10);
    }

    private static void word() {
        TwoMayors x = laid(TEN_WORDS.concat("g0,0;g0,9;g9,0;k0,9;k1,9;k1,0;"));
        due("word(-1, 0)", x.word(-1, 0), BAD);
        due("word(10, 0)", x.word(10, 0), BAD);
        due("word(0, -1)", x.word(0, -1), BAD);
        due("word(0, 4)", x.word(0, 4), BAD);
        due("word(9, 0)", x.word(9, 0), 0);
        due("word(9, 1)", x.word(9, 1), 9);
        due("word(0, 2)", x.word(0, 2), 513);
        due("word(9, 2)", x.word(9, 2), 1);
        due("word(9, 3)", x.word(9, 3), 3);
        due("word(0, 3)", x.word(0, 3), 2);
        x.learn(0, 0);
        x.learn(1, 0);
        due("word(0, 3) as things stand", x.word(0, 3), 1);
        TwoMayors small = new TwoMayors();
        due("word(6, 0)", small.word(6, 0), 0);
        due("word(7, 0)", small.word(7, 0), BAD);
        due("word(most, 0)", small.word(Integer.MAX_VALUE, 0), BAD);
        due("word(least, 0)", small.word(Integer.MIN_VALUE, 0), BAD);
    }

    private static void mayor() {
        TwoMayors x = new TwoMayors();
        due("mayor(-1, 0)", x.mayor(-1, 0), BAD);
        due("mayor(2, 0)", x.mayor(2, 0), BAD);
        due("mayor(0, -1)", x.mayor(0, -1), BAD);
        due("mayor(0, 4)", x.mayor(0, 4), BAD);
        told(x, 2, 4).end();
        told(x, 0).finish();
        told(x, 3).end();
        x.learn(0, 0);
        dueOfMayor(x, 0, 0, 1, 9, 25);
        dueOfMayor(x, 1, 1, 2, 8, 10);
    }

    private static void said() {
        TwoMayors x = new TwoMayors();
        due("said(-1)", x.said(-1), BAD);
        due("said(0) of none", x.said(0), NONE);
        told(x, 6, 0, 2);
        due("said(0)", x.said(0), 6);
        due("said(1)", x.said(1), 0);
        due("said(2)", x.said(2), 2);
        due("said(3)", x.said(3), NONE);
        due("said(11)", x.said(11), NONE);
        due("said(-1)", x.said(-1), BAD);
        due("said(least)", x.said(Integer.MIN_VALUE), BAD);
        x.drop();
        told(x, 3, 2, 3, 2, 3, 2, 3, 2, 3, 2, 3, 2);
        due("said(11) of 12", x.said(11), 2);
    }

    private static void say() {
        TwoMayors x = new TwoMayors();
        due("say(-1)", x.say(-1), BAD);
        due("say(7)", x.say(7), BAD);
        due("say(6)", x.say(6), 1);
        due("say(1)", x.say(1), NO);
        due("say(6)", x.say(6), NO);
        counts(x, 7, 1, 1, 0, 0, 2, 0, 1);
        due("say(4)", x.say(4), 2);
        due("say(0) behind a word with none behind", x.say(0), NO);
        x.drop();
        for (int i = 1; i <= 12; i++) {
            due("say of 12", x.say(i % 2 == 1 ? 3 : 2), i);
        }
        due("say(7) as the 13th", x.say(7), BAD);
        due("say(2) as the 13th", x.say(2), NO);
        due("say(3) as the 13th", x.say(3), FULL);
        counts(x, 7, 15, 12, 0, 0, 2, 0, 8);
    }

    private static void end() {
        TwoMayors x = new TwoMayors();
        due("end() of none", x.end(), NO);
        told(x, 0, 2);
        due("end() without a stop", x.end(), NO);
        counts(x, 7, 2, 2, 0, 0, 2, 0, 2);
        told(x, 3, 2, 4);
        due("end()", x.end(), 3 + 5 + 2 + 5 + 4);
        counts(x, 7, 5, 0, 1, 0, 2, 0, 6);
        dueOfMayor(x, 0, 1, 1, 19, 24);
        dueOfMayor(x, 1, 0, 0, 0, 10);
        due("end() again", x.end(), NO);
        due("say(4) anew", x.say(4), 1);
        due("end()", x.end(), 4);
        dueOfMayor(x, 0, 1, 2, 23);

        TwoMayors worthless = told(laid("w2,0;"), 0);
        due("end() for nothing", worthless.end(), 0);
        due("mayor(0, 1)", worthless.mayor(0, 1), 1);
    }

    private static void finish() {
        TwoMayors x = new TwoMayors();
        due("finish() of none", x.finish(), NO);
        told(x, 2);
        due("finish() behind an adjective", x.finish(), NO);
        counts(x, 7, 1, 1, 0, 0, 2, 0, 1);
        x.drop();
        told(x, 6);
        due("finish() with words not known", x.finish(), NO);
        x.drop();
        told(x, 0);
        due("finish()", x.finish(), 3 + 1 + 2);
        counts(x, 7, 7, 0, 1, 1, 2, 0, 6);
        dueOfMayor(x, 0, 0, 0, 0, 24);
        dueOfMayor(x, 1, 1, 1, 6, 10);
        told(x, 1);
        due("finish() back", x.finish(), 1 + 2);
        dueOfMayor(x, 0, 1, 1, 3);
        due("count(4)", x.count(4), 2);

        TwoMayors full = laid("w2,9;g0,0;k1,0;l1;");
        told(full, 0, 0, 0, 0, 0, 0, 0, 0, 0, 0, 0, 0);
        due("finish() beyond 12", full.finish(), 13 * 9);
        counts(full, 1, 13, 0, 1, 1);

        TwoMayors proverb = laid("w3,5;w0,1;w2,2;g0,1;g1,2;g1,0;l2;");
        told(proverb, 1);
        due("finish() without a proverb first", proverb.finish(), NO);
        proverb.say(0);
        due("finish() with a proverb, but not first", proverb.finish(), NO);
        proverb.drop();
        told(proverb, 0);
        due("finish() with a proverb first", proverb.finish(), 8);
        TwoMayors tooFar = told(laid("w3,5;w0,1;w2,2;g0,1;g1,2;l1;"), 0);
        due("finish() of more than L", tooFar.finish(), NO);
        tooFar.say(1);
        due("finish() of L", tooFar.finish(), 8);
    }

    private static void drop() {
        TwoMayors x = new TwoMayors();
        due("drop() of none", x.drop(), NO);
        told(x, 0, 2);
        due("drop()", x.drop(), 2);
        counts(x, 7, 3, 0, 0, 0, 2, 0, 3);
        due("said(0)", x.said(0), NONE);
        due("drop() again", x.drop(), NO);
        counts(x, 7, 3);
        told(x, 3, 2, 3, 2, 3, 2, 3, 2, 3, 2, 3, 2);
        due("drop() of 12", x.drop(), 12);
        due("mayor(0, 0)", x.mayor(0, 0), 1);
    }

    private static void learn() {
        TwoMayors x = new TwoMayors();
        due("learn(-1, 0)", x.learn(-1, 0), BAD);
        due("learn(2, 0)", x.learn(2, 0), BAD);
        due("learn(0, -1)", x.learn(0, -1), BAD);
        due("learn(0, 7)", x.learn(0, 7), BAD);
        counts(x, 7, 0, 0, 0, 0, 2, 0, 0);
        due("learn(0, 0)", x.learn(0, 0), 1);
        due("learn(0, 6)", x.learn(0, 6), 1);
        due("learn(1, 3)", x.learn(1, 3), 0);
        due("mayor(0, 3)", x.mayor(0, 3), 1 + 8 + 16 + 64);
        due("mayor(1, 3)", x.mayor(1, 3), 2);
        due("learn(0, 0)", x.learn(0, 0), 0);
        due("learn(1, 3)", x.learn(1, 3), 1);
        counts(x, 7, 0, 0, 0, 0, 2, 0, 5);
    }

    private static void undo() {
        TwoMayors x = new TwoMayors();
        due("undo() of none", x.undo(), NO);
        x.say(0);
        x.say(5);
        x.finish();
        x.learn(1, 0);
        told(x, 3).end();
        x.say(0);
        x.drop();
        counts(x, 7, 6, 0, 2, 1, 2, 0, 7);
        due("undo() of drop", x.undo(), 6);
        due("said(0)", x.said(0), 0);
        counts(x, 7, 5, 1);
        due("undo() of say", x.undo(), 5);
        due("undo() of end", x.undo(), 4);
        due("said(0)", x.said(0), 3);
        dueOfMayor(x, 1, 1, 1, 6, 11);
        due("undo() of say", x.undo(), 3);
        due("undo() of learn", x.undo(), 2);
        dueOfMayor(x, 1, 1, 1, 6, 10);
        due("undo() of finish", x.undo(), 1);
        dueOfMayor(x, 1, 0, 0, 0, 10);
        counts(x, 7, 1, 1, 0, 0, 2, 0, 1);
        due("undo() of say", x.undo(), 0);
        counts(x, 7, 0, 0, 0, 0, 2, 0, 0);
        due("undo() of none", x.undo(), NO);

        for (int i = 0; i < 9; i++) {
            x.learn(0, 0);
        }
        due("count(7) of 9", x.count(7), 8);
        for (int left = 7; left >= 0; left--) {
            due("undo() of 9", x.undo(), left);
        }
        due("undo() as the 9th", x.undo(), NO);
        due("mayor(0, 3)", x.mayor(0, 3), 25);

        x.say(0);
        x.undo();
        x.say(1);
        due("undo() behind an undo", x.undo(), 0);
        due("undo() of none", x.undo(), NO);
    }

    private static void row(String call, int[] got, int... wanted) {
        due(call + ": how many", got[0], wanted.length);
        for (int i = 0; i + 1 < got.length; i++) {
            due(call + ": " + i, got[i + 1], i < wanted.length ? wanted[i] : NONE);
        }
    }

    private static int[] finishingOf(TwoMayors x) {
        int[] got = new int[5];
        for (int k = -1; k < 4; k++) {
            got[k + 1] = x.finishing(k);
        }
        return got;
    }

    private static void noRow(String call, int[] got) {
        for (int i = 0; i < got.length; i++) {
            due(call + ": none of " + (i - 1), got[i], NONE);
        }
    }

    private static void finishing() {
        TwoMayors x = laid("w0,1;w2,1;w2,2;w0,3;w1,1;g0,3;g0,4;g0,0;g3,2;g3,1;g4,1;k1,1;k1,2;k1,3;k1,4;k1,0;");
        noRow("finishing of none", finishingOf(x));
        due("finishing(-2)", x.finishing(-2), BAD);
        due("finishing(4)", x.finishing(4), BAD);
        x.say(0);
        due("finishing(-2)", x.finishing(-2), BAD);
        due("finishing(4)", x.finishing(4), BAD);
        row("the first of fewest", finishingOf(x), 3, 1);
        x.learn(1, 1);
        row("the next one", finishingOf(x), 3, 2);
        x.learn(1, 1);
        x.learn(1, 3);
        row("through an adjective", finishingOf(x), 4, 1);
        x.say(4);
        noRow("behind an adjective", finishingOf(x));
        counts(x, 5, 2, 2);

        String way = "w0,1;w0,1;w0,1;w0,1;w2,1;g0,1;g1,2;g2,3;g3,4;k1,1;k1,2;k1,3;k1,4;";
        row("4 of l4", finishingOf(told(laid(way.concat("l4;")), 0)), 1, 2, 3, 4);
        noRow("4 of l3", finishingOf(told(laid(way.concat("l3;")), 0)));
        row("3 of l3", finishingOf(told(laid(way.concat("l3;")), 0, 1)), 2, 3, 4);
        noRow("3 without l", finishingOf(told(laid(way), 0, 1)));
        row("2 without l", finishingOf(told(laid(way), 0, 1, 2)), 3, 4);
        noRow("2 of l1", finishingOf(told(laid(way.concat("l1;")), 0, 1, 2)));
        noRow("by the other alone", finishingOf(told(laid(way.concat("l4;c1;")), 0)));
        row("fewest, not first", finishingOf(told(laid("w0,0;w0,0;w2,0;g0,1;g1,2;g0,2;k1,1;k1,2;"), 0)), 2);
        row("behind a stop", finishingOf(told(laid("w2,0;g0,0;k1,0;"), 0)), 0);
        row("a proverb first", finishingOf(told(new TwoMayors(), 5, 3)), 2, 3);
    }

    private static int[] safeOf(TwoMayors x, int w) {
        int[] got = new int[11];
        for (int k = -1; k < 10; k++) {
            got[k + 1] = x.safe(w, k);
        }
        return got;
    }

    private static void safe() {
        TwoMayors x = new TwoMayors();
        due("safe(-1, -1)", x.safe(-1, -1), BAD);
        due("safe(7, -1)", x.safe(7, -1), BAD);
        due("safe(3, -2)", x.safe(3, -2), BAD);
        due("safe(3, 10)", x.safe(3, 10), BAD);
        due("safe(0, 10) where there is none", x.safe(0, 10), BAD);
        noRow("safe of 0", safeOf(x, 0));
        row("safe of 2", safeOf(x, 2), 2, 3);
        row("safe of 3, a stop that could be finished", safeOf(x, 3), 3);
        x.learn(1, 1);
        row("safe of 0 as things stand", safeOf(x, 0), 0, 2, 3);
        x.learn(1, 3);
        row("safe of 1", safeOf(x, 1), 1, 3);
        noRow("safe of 5, a proverb", safeOf(x, 5));
        x.say(4);
        row("safe of 1 begun anew", safeOf(x, 1), 1, 3);

        TwoMayors ten = laid(TEN_WORDS.replace("w0,9;", "w2,9;").concat(CHAIN_OF_TEN));
        row("safe of 10 words", safeOf(ten, 0), 0, 1, 2, 3, 4, 5, 6, 7, 8, 9);
        // Behind a proverb any words do: so it must not come first, and its way is one word longer.
        TwoMayors long10 = laid("w3,0;w0,1;w0,1;w0,1;w0,1;w0,1;w0,1;w0,1;w2,1;"
            .concat("g0,1;g1,2;g2,3;g3,4;g4,5;g5,6;g6,7;g7,8;g7,0;l1;"));
        row("safe of a proverb, 10 words", safeOf(long10, 0), 7, 0, 1, 2, 3, 4, 5, 6, 7, 8);
        TwoMayors long11 = laid("w3,0;w0,1;w0,1;w0,1;w0,1;w0,1;w0,1;w0,1;w0,1;w2,1;"
            .concat("g0,1;g1,2;g2,3;g3,4;g4,5;g5,6;g6,7;g7,8;g8,9;g8,0;l1;"));
        noRow("safe of a proverb, 11 words", safeOf(long11, 0));
        row("the first of several", safeOf(laid("w0,0;w0,0;w2,0;w2,0;w0,0;g4,1;g4,0;g0,3;g1,2;"), 4), 4, 0, 3);
        row("none of the words ahead is let go", safeOf(laid("w0,0;w0,0;w0,0;w2,0;w3,0;w2,0;"
            .concat("g2,1;g1,3;g2,4;g4,3;g0,5;g0,4;l1;k1,5;")), 4), 2, 4, 3);
        row("by the mayor with the chain", safeOf(laid("w0,0;w2,0;g0,1;k1,1;c1;"), 0), 0, 1);
        noRow("not by the other", safeOf(laid("w0,0;w2,0;g0,1;k1,1;c0;"), 0));
    }

    private static int[] bestOf(TwoMayors x, int n) {
        int[] got = new int[11];
        for (int k = -2; k < 10; k++) {
            if (k != -1) {
                got[k < 0 ? 0 : k + 1] = x.best(n, k);
            }
        }
        return got;
    }

    private static void best() {
        TwoMayors x = new TwoMayors();
        due("best(0, -1)", x.best(0, -1), BAD);
        due("best(11, -1)", x.best(11, -1), BAD);
        due("best(1, -3)", x.best(1, -3), BAD);
        due("best(1, 10)", x.best(1, 10), BAD);
        due("best(1, -1)", x.best(1, -1), 4);
        row("best of 1", bestOf(x, 1), 4);
        due("best(2, -1)", x.best(2, -1), 9);
        row("best of 2", bestOf(x, 2), 2, 4);
        due("best(10, -1)", x.best(10, -1), 37);
        row("best of 10", bestOf(x, 10), 2, 3, 2, 3, 2, 3, 2, 3, 2, 4);
        x.learn(1, 1);
        due("best(3, -1) as things stand", x.best(3, -1), 12);
        row("best of 3 as things stand", bestOf(x, 3), 0, 2, 4);

        TwoMayors none = laid("w0,9;w1,9;w3,9;g0,0;");
        due("best(10, -1) of none", none.best(10, -1), NONE);
        due("best(10, -2) of none", none.best(10, -2), NONE);
        due("best(10, 0) of none", none.best(10, 0), NONE);
        due("best(10, 10) of none", none.best(10, 10), BAD);
        TwoMayors worthless = laid("w2,0;w2,0;g0,0;");
        due("best(10, -1) of no worth", worthless.best(10, -1), 0);
        row("best of no worth", bestOf(worthless, 10), 0);
        row("fewest words", bestOf(laid("w0,0;w2,5;g0,1;"), 10), 1);
        row("then the first", bestOf(laid("w0,1;w0,1;w2,5;w2,5;g1,2;g0,3;g0,2;"), 10), 0, 2);
        row("the second word", bestOf(laid("w0,9;w0,1;w0,1;w2,5;g0,2;g0,1;g1,3;g2,3;"), 10), 0, 1, 3);
        TwoMayors ten = laid("w2,9;g0,0;");
        due("best(10, -1) of most", ten.best(10, -1), 90);
        row("best of most", bestOf(ten, 10), 0, 0, 0, 0, 0, 0, 0, 0, 0, 0);
        due("best(9, -1)", ten.best(9, -1), 81);
        TwoMayors proverb = laid("w3,9;w0,0;w2,1;g0,2;g1,0;l1;");
        due("best(10, -1): a proverb, not first", proverb.best(10, -1), 10);
        row("a proverb, not first", bestOf(proverb, 10), 1, 0, 2);
    }

    private static int[] lureOf(TwoMayors x, int w) {
        int[] got = new int[11];
        for (int k = -1; k < 10; k++) {
            got[k + 1] = x.lure(w, k);
        }
        return got;
    }

    private static void lure() {
        TwoMayors x = new TwoMayors();
        due("lure(-1, -1)", x.lure(-1, -1), BAD);
        due("lure(7, -1)", x.lure(7, -1), BAD);
        due("lure(3, -2)", x.lure(3, -2), BAD);
        due("lure(3, 10)", x.lure(3, 10), BAD);
        due("lure(4, 10) where there is none", x.lure(4, 10), BAD);
        row("lure to 3", lureOf(x, 3), 0);
        row("lure to 1", lureOf(x, 1), 0);
        noRow("lure to 4", lureOf(x, 4));
        noRow("lure to 2, an adjective not known", lureOf(x, 2));
        x.learn(1, 1);
        row("lure to 3 without 1 as things stand", lureOf(x, 3), 1);
        x.learn(1, 3);
        row("lure to 3 by the proverb", lureOf(x, 3), 5);
        x.learn(1, 4);
        row("lure to 4 as things stand", lureOf(x, 4), 6);

        TwoMayors fewest = laid("w0,0;w0,0;w2,0;g0,1;g1,2;g0,2;k1,1;k1,2;");
        noRow("lure to what he would not say", lureOf(fewest, 1));
        TwoMayors ten = laid("w3,0;w1,0;w2,0;w0,0;w0,0;w0,0;w0,0;w0,0;w0,0;w0,0;".concat(CHAIN_OF_TEN).concat("g9,2;l1;"));
        row("lure of 10 words", lureOf(ten, 2), 0, 1, 2, 3, 4, 5, 6, 7, 8, 9);
        // Behind 1 he could finish ahead of 2: so by 0, 1, 2 he is not lured.
        TwoMayors ahead = laid("w3,0;w0,0;w0,0;w2,0;w2,0;g0,1;g1,2;g1,3;g2,4;l1;");
        row("lure to 3", lureOf(ahead, 3), 0, 1);
        noRow("lure to 4, but ahead of it", lureOf(ahead, 4));
        TwoMayors several = laid("w3,0;w0,0;w0,0;w2,0;g0,2;g0,1;g2,3;g1,3;l1;");
        row("the first of several", lureOf(several, 3), 0, 1);
        row("by the mayor with the chain", lureOf(laid("w0,0;w2,0;g0,1;k0,1;c1;"), 1), 0);
        noRow("not of himself", lureOf(laid("w0,0;w2,0;g0,1;k1,1;c1;"), 1));
    }

    private static void sitting() {
        TwoMayors x = new TwoMayors();
        due("sitting(-1)", x.sitting(-1), BAD);
        due("sitting(7)", x.sitting(7), BAD);
        int[] wanted = {2, 1, 1, 2, 2, 1, 1};
        for (int w = 0; w < 7; w++) {
            due("sitting(" + w + ")", x.sitting(w), wanted[w]);
        }
        TwoMayors ten = laid(TEN_WORDS.concat(CHAIN_OF_TEN));
        for (int w = 0; w < 10; w++) {
            due("sitting(" + w + ") of a chain", ten.sitting(w), w % 2 == 0 ? 1 : 2);
        }
        TwoMayors endless = laid("w0,0;w0,0;w0,0;w2,0;g0,0;g0,1;g1,3;g2,0;g2,1;g3,3;");
        due("sitting(0) without end", endless.sitting(0), 0);
        due("sitting(1)", endless.sitting(1), 1);
        due("sitting(2) to one without end", endless.sitting(2), 0);
        due("sitting(3) of a stop", endless.sitting(3), 1);
        due("sitting(0) with none behind", laid("w2,9;").sitting(0), 2);
    }

    private static void ways() {
        TwoMayors x = new TwoMayors();
        due("ways(0, 0)", x.ways(0, 0), BAD);
        due("ways(9, 0)", x.ways(9, 0), BAD);
        due("ways(1, -1)", x.ways(1, -1), BAD);
        due("ways(1, 2)", x.ways(1, 2), BAD);
        due("ways(1, 0)", x.ways(1, 0), 2);
        due("ways(1, 1)", x.ways(1, 1), 2);
        due("ways(2, 0)", x.ways(2, 0), 5);
        due("ways(2, 1)", x.ways(2, 1), 3);
        due("ways(3, 0)", x.ways(3, 0), 6);
        due("ways(3, 1)", x.ways(3, 1), 2);
        x.learn(1, 3);
        due("ways(2, 1) as things stand", x.ways(2, 1), 4);
        due("ways(8, 0) of none", laid("w0,0;g0,0;").ways(8, 0), 0);

        StringBuilder all = new StringBuilder("w2,0;w2,0;w2,0;w2,0;w2,0;");
        for (int a = 0; a < 5; a++) {
            for (int b = 0; b < 5; b++) {
                all.append("g").append(a).append(",").append(b).append(";");
            }
        }
        TwoMayors most = laid(all.toString());
        due("ways(8, 0) of most", most.ways(8, 0), 390625);
        due("ways(8, 1) of most", most.ways(8, 1), 390625);
        most.learn(1, 4);
        due("ways(8, 1) of none", most.ways(8, 1), 0);
        due("ways(1, 1)", most.ways(1, 1), 5);
        TwoMayors proverb = laid("w3,0;w0,0;w2,0;g0,2;g1,2;");
        due("ways(2, 0) with a proverb", proverb.ways(2, 0), 2);
        due("ways(2, 1) with a proverb", proverb.ways(2, 1), 1);
    }

    private static void seen() {
        TwoMayors x = new TwoMayors();
        due("seen(-1, 0)", x.seen(-1, 0), BAD);
        due("seen(7, 0)", x.seen(7, 0), BAD);
        due("seen(0, -1)", x.seen(0, -1), BAD);
        due("seen(0, 2)", x.seen(0, 2), BAD);
        due("count(6)", x.count(6), 0);
        for (int i = 1; i <= 8; i++) {
            due("seen(" + (i % 7) + ", 0)", x.seen(i % 7, 0), i);
        }
        due("seen(0, 0) as the 9th", x.seen(0, 0), FULL);
        due("seen(7, 0) as the 9th", x.seen(7, 0), BAD);
        counts(x, 7, 0, 0, 0, 0, 2, 8, 0);
    }

    private static void forget() {
        TwoMayors x = new TwoMayors();
        due("forget() of none", x.forget(), 0);
        x.seen(3, 1);
        x.seen(2, 1);
        due("guessed(0)", x.guessed(0), 0);
        due("forget()", x.forget(), 2);
        due("count(6)", x.count(6), 0);
        due("guessed(0) then", x.guessed(0), 128);
        due("seen(0, 0) then", x.seen(0, 0), 1);
    }

    private static void dueGuess(TwoMayors x, int sets, int all, int any) {
        due("guessed(0)", x.guessed(0), sets);
        due("guessed(1)", x.guessed(1), all);
        due("guessed(2)", x.guessed(2), any);
    }

    private static void guessed() {
        TwoMayors x = new TwoMayors();
        due("guessed(-1)", x.guessed(-1), BAD);
        due("guessed(3)", x.guessed(3), BAD);
        dueGuess(x, 128, 0, 127);
        x.seen(5, 1);
        dueGuess(x, 64, 8, 127);
        x.seen(2, 0);
        dueGuess(x, 64, 8, 127);
        x.seen(1, 0);
        dueGuess(x, 0, NONE, NONE);
        due("guessed(3) of none", x.guessed(3), BAD);
        x.forget();
        x.seen(2, 1);
        dueGuess(x, 0, NONE, NONE);
        x.forget();
        x.seen(6, 1);
        x.seen(6, 0);
        dueGuess(x, 0, NONE, NONE);
        x.forget();
        // 4 behind 6 at once; behind 6 and 0 no stop comes next: so he knows 4.
        x.seen(6, 1);
        x.learn(1, 4);
        told(x, 0).finish();
        dueGuess(x, 64, 16, 127);

        String way = "w0,0;w0,0;w2,0;g0,1;g1,2;";
        TwoMayors two = laid(way);
        two.seen(0, 1);
        dueGuess(two, 2, 6, 7);
        two.forget();
        two.seen(0, 0);
        dueGuess(two, 6, 0, 7);
        two.wipe();
        put(two, way.concat("l1;"));
        two.lay();
        two.seen(0, 1);
        dueGuess(two, 0, NONE, NONE);
        TwoMayors ten = laid(TEN_WORDS);
        dueGuess(ten, 1024, 0, 1023);
    }

    private static void dueCouncil(TwoMayors x, int z, int n, int chain, int decrees, int gained) {
        String call = "council(" + z + ", " + n + ", ";
        due(call + "0)", x.council(z, n, 0), chain);
        due(call + "1)", x.council(z, n, 1), decrees);
        due(call + "2)", x.council(z, n, 2), gained);
    }

    private static void council() {
        TwoMayors x = new TwoMayors();
        due("council(-1, 1, 0)", x.council(-1, 1, 0), BAD);
        due("council(10000, 1, 0)", x.council(10000, 1, 0), BAD);
        due("council(0, 0, 0)", x.council(0, 0, 0), BAD);
        due("council(0, 61, 0)", x.council(0, 61, 0), BAD);
        due("council(0, 1, -1)", x.council(0, 1, -1), BAD);
        due("council(0, 1, 3)", x.council(0, 1, 3), BAD);
        // The draws of z = 0 are 0, 20743, ..: word 0 is said, then finished by 1 and 3.
        dueCouncil(x, 0, 1, 0, 0, 500);
        dueCouncil(x, 0, 2, 1, 1, 494);
        counts(x, 7, 0, 0, 0, 0, 2, 0, 0);
        dueOfMayor(x, 0, 1, 0, 0, 24);
        told(x, 4).end();
        dueCouncil(x, 0, 2, 1, 2, 498);
        told(x, 0);
        dueCouncil(x, 0, 1, 1, 2, 498);
        due("said(0) then", x.said(0), 0);
        counts(x, 7, 2, 1, 1, 0, 2, 0, 3);

        councilsBesideModel("");
        councilsBesideModel("w2,9;g0,0;", 0, 0, 0, 0, 0, 0, 0, 0, 0, 0, 0, 0);
        councilsBesideModel("w3,1;w2,9;w1,3;g0,0;g0,1;g1,2;g2,0;k0,1;k1,2;k1,0;c1;", 0, 0);
    }

    private static void councilsBesideModel(String text, int... words) {
        Model model = new Model();
        TwoMayors x = written(text);
        for (int i = 0; i < text.length(); i++) {
            model.write(text.charAt(i));
        }
        due("lay()", x.lay(), model.lay());
        for (int w : words) {
            due("say(" + w + ")", x.say(w), model.say(w));
        }
        for (int z : new int[] {0, 1, 77, 5000, 9998, 9999}) {
            for (int n : new int[] {1, 2, 12, 13, 59, 60}) {
                dueCouncil(x, z, n, model.council(z, n, 0), model.council(z, n, 1), model.council(z, n, 2));
            }
        }
    }

    private static void keep() {
        TwoMayors x = new TwoMayors();
        due("keep()", x.keep(), 1);
        due("keep()", x.keep(), 2);
        due("keep() as the 3rd", x.keep(), FULL);
        due("count(8)", x.count(8), 2);
        due("back()", x.back(), 1);
        due("keep() anew", x.keep(), 2);
        x.say(0);
        due("count(7) behind keep()", x.count(7), 1);
        due("undo() behind keep()", x.undo(), 0);
    }

    private static void back() {
        TwoMayors x = new TwoMayors();
        due("back() of none", x.back(), NO);
        told(x, 3, 2);
        x.learn(1, 0);
        x.seen(0, 1);
        x.keep();
        x.drop();
        told(x, 0).finish();
        x.learn(1, 6);
        x.keep();
        x.seen(1, 1);
        x.learn(0, 0);
        told(x, 3).end();
        put(x, "w");
        due("back()", x.back(), 1);
        counts(x, 7, 6, 0, 1, 1, 2, 2, 0, 1, 1);
        dueOfMayor(x, 0, 0, 0, 0, 24);
        dueOfMayor(x, 1, 1, 1, 6, 75);
        due("undo() behind back()", x.undo(), NO);
        x.forget();
        due("back() to the first", x.back(), 0);
        counts(x, 7, 2, 2, 0, 0, 2, 0, 0, 0, 1);
        due("said(0)", x.said(0), 3);
        due("said(1)", x.said(1), 2);
        due("said(2)", x.said(2), NONE);
        dueOfMayor(x, 0, 1, 0, 0, 24);
        dueOfMayor(x, 1, 0, 0, 0, 11);
        due("back() of none", x.back(), NO);
        x.say(4);
        due("back() of none, nothing changes", x.back(), NO);
        counts(x, 7, 3, 3, 0, 0, 2, 0, 1);
    }

    private static void count() {
        TwoMayors x = laid("w2,1;w0,1;g0,0;g1,0;k1,0;k0,0;l3;");
        due("count(-1)", x.count(-1), BAD);
        due("count(10)", x.count(10), BAD);
        due("count(least)", x.count(Integer.MIN_VALUE), BAD);
        due("count(most)", x.count(Integer.MAX_VALUE), BAD);
        told(x, 0).finish();
        told(x, 0).finish();
        told(x, 0).end();
        x.keep();
        told(x, 1, 0, 0);
        x.seen(0, 1);
        x.seen(0, 1);
        counts(x, 2, 8, 3, 3, 2, 3, 2, 8, 1, 33);
    }
}
