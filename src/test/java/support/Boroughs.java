/** Boroughs and stories that several tests begin with. */
final class Boroughs {
    static final String AT_FIRST = "w0,3;w0,1;w1,5;w2,2;w2,4;w3,1;w0,2;g0,1;g0,2;g1,3;g1,6;g2,3;g2,4;"
        + "g5,3;g6,4;g6,0;g3,2;k0,3;k0,4;k1,3;k1,1;l2;c0;";
    static final String TEN_PLAIN = "w0,0;w0,1;w0,2;w0,3;w0,4;w0,5;w0,6;w0,7;w0,8;w0,9;";
    /** Ten stops in a ring: behind each may come itself, the next one, and the one next to that. */
    private static final String TEN_STOPS = "w2,9;".repeat(10);
    private static final String THIRTY_WAYS = "g0,0;g1,1;g2,2;g3,3;g4,4;g5,5;g6,6;g7,7;g8,8;g9,9;"
        + "g0,1;g1,2;g2,3;g3,4;g4,5;g5,6;g6,7;g7,8;g8,9;g9,0;g0,2;g1,3;g2,4;g3,5;g4,6;g5,7;g6,8;g7,9;g8,0;g9,1;";
    static final String OF_200_LETTERS = TEN_STOPS + THIRTY_WAYS;

    private Boroughs() {
    }

    /** Nothing is empty here, and nothing full. */
    static Story midway() {
        return Story.ofNew().seen(0, 1).learn(1, 0).say(0).keep().finish().seen(3, 0).say(3, 2).write("w1,1;x");
    }

    /** As full as it can be: 200 letters, 10 words, 12 said, 8 that can be undone, 8 seen, 2 kept. */
    static Story brimful() {
        Story story = Story.of(OF_200_LETTERS).say(0, 1).keep().say(3, 4, 5, 5, 6, 8, 9).keep().say(0, 0, 2);
        for (int w = 0; w < 8; w++) {
            story = story.seen(w + 2, w % 2);
        }
        return story;
    }

    static Story[] threeStories() {
        return new Story[] {Story.ofNew(), midway(), brimful()};
    }

    /** How many words there are in each of the three stories. */
    static int[] wordsOfThree() {
        return new int[] {7, 7, 10};
    }
}
