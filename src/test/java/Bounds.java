/** What the tests of boundary cases share: how a scene is made, and how an answer is held against the one due. */
abstract class Bounds {
    static final int BAD = -1, STATE = -2, FULL = -3, NONE = -9, NO = -1000000;
    static final Check CHECK = new Check();

    static void due(String what, long got, long want) {
        CHECK.due(what, got, want);
    }

    static Scene rich() {
        return Scene.rich(CHECK);
    }

    static Scene told(String text) {
        return Scene.of(CHECK, text);
    }

    /** Sets a cast to a thing and lets so many nights go by. */
    static void study(CastGallery x, int c, int t, int n) {
        due("study: sets(" + c + ", " + t + ")", x.sets(c, t), NONE);
        x.nights(n);
    }
}
