/** Boundary cases of the hall (Terms, part 1, promises 1 to 7): each sentence's last taken and first refused. */
public final class HallBoundsTest extends Bounds {
    private static final String THING = "t0 1 6 0 0;", CAST = "c1 1 0;";

    public static void main(String[] args) {
        newObject();
        byteFrom0To255();
        textOf150Bytes();
        badAheadOfFull();
        clearOfAnEmptyAndAFullText();
        hallOfNoItem();
        eightThings();
        sixCasts();
        loadFrom0To9();
        hardFrom1To30();
        partFrom0To6();
        needsToldAhead();
        limeFrom1To99();
        witFrom1To9();
        lacksFrom0To63();
        blanksBetweenTokens();
        lettersFromAToZ();
        lettersThatBeginNoItem();
        tokensThatCannotStandThere();
        bytesThatBeginNone();
        numbersUpTo99();
        noZeroAheadOfOthers();
        textThatEndsTooEarly();
        theFirstFaultOfSeveral();
        faultAtTheFarthestPlace();
        aFaultLeavesTheText();
        readAnew();
        badThing();
        badCast();
        badFar();
        CHECK.end();
    }

    private static CastGallery taken(String text, int items) {
        CastGallery x = new CastGallery();
        Check.typeAll(x, text);
        due("4 hall() of '" + text + "'", x.hall(), items);
        due("4 the text is empty behind '" + text + "'", x.count(4), 0);
        return x;
    }

    /** Told to a hall in which much is done: all of it stays. */
    private static void fault(String text, int place) {
        rich().typed(text).leaves("4 fault of '" + text + "'", CastGallery::hall, -10 - place);
    }

    private static void newObject() {
        Scene scene = told("");
        for (int what = 0; what <= 4; what++) {
            int asked = what;
            scene.leaves("1 count(" + what + ")", x -> x.count(asked), 0);
            scene.leaves("1 now(" + what + ")", x -> x.now(asked), 0);
        }
        scene.leaves("1 thing(0, 0): no things", x -> x.thing(0, 0), BAD);
        scene.leaves("1 cast(0, 0): no casts", x -> x.cast(0, 0), BAD);
        scene.leaves("1 far(0, 0)", x -> x.far(0, 0), BAD);
        scene.leaves("1 sets(0, -1)", x -> x.sets(0, -1), BAD);
        scene.leaves("1 mends(0)", x -> x.mends(0), BAD);
        scene.leaves("1 joins(0, 1, 0)", x -> x.joins(0, 1, 0), BAD);
        scene.leaves("1 undo()", CastGallery::undo, STATE);
        scene.leaves("1 plan(0, 0, 0)", x -> x.plan(0, 0, 0), BAD);
        scene.leaves("1 best(0, 0, 0)", x -> x.best(0, 0, 0), BAD);
        scene.leaves("1 own(-1)", x -> x.own(-1), 0);
        scene.leaves("1 own(0)", x -> x.own(0), BAD);
        scene.leaves("1 near(0, 1)", x -> x.near(0, 1), BAD);
        scene.leaves("1 odds(10, 0, 0)", x -> x.odds(10, 0, 0), 1);
        scene.leaves("1 odds(10, 0, 1)", x -> x.odds(10, 0, 1), 1);
        scene.leaves("1 hears(0, 0)", x -> x.hears(0, 0), BAD);
        scene.leaves("1 forget()", CastGallery::forget, 0);
        scene.leaves("1 who()", CastGallery::who, 0);
        scene.leaves("1 ask()", CastGallery::ask, NONE);
        scene.leaves("1 mark(0, 0)", x -> x.mark(0, 0), NO);
        scene.leaves("1 back(0)", x -> x.back(0), STATE);
        scene.leaves("1 back(1)", x -> x.back(1), STATE);
        scene.leaves("1 clear()", CastGallery::clear, 0);
        scene.leaves("1 trace()", CastGallery::trace, 0);
        scene.changes("1 nights(1) of no casts", x -> x.nights(1), 0);
        scene.changes("1 keep(0) of no casts", x -> x.keep(0), 0);
    }

    private static void byteFrom0To255() {
        Scene scene = rich().typed(CAST);
        for (int c : Scene.beyond(0, 255)) {
            scene.leaves("2 type(" + c + ")", x -> x.type(c), BAD);
        }
        scene.changes("2 type(0)", x -> x.type(0), 8);
        scene.changes("2 type(255)", x -> x.type(255), 8);
        // A byte is kept whole: 256 + 32 would be a blank if it were cut.
        scene.leaves("2 type(288)", x -> x.type(288), BAD);
    }

    private static String blanks(int many) {
        return " ".repeat(many);
    }

    private static void textOf150Bytes() {
        CastGallery x = new CastGallery();
        Check.typeAll(x, CAST + blanks(142));
        due("2 149 bytes", x.count(4), 149);
        due("2 type(32), the 150th", x.type(' '), 150);
        due("2 count(4), full", x.count(4), 150);
        due("2 hall() of 150 bytes", x.hall(), 1);
        due("2 type(99) behind it", x.type('c'), 1);
        rich().typed(CAST + blanks(142)).changes("2 the 150th", y -> y.type(' '), 150);
        rich().typed(CAST + blanks(143)).leaves("2 the 151st", y -> y.type(' '), FULL);
        rich().typed(CAST + blanks(143)).leaves("2 the 151st, a fault", y -> y.type('#'), FULL);
        taken(blanks(143) + CAST, 1);
    }

    private static void badAheadOfFull() {
        Scene full = rich().typed(CAST + blanks(143));
        for (int c : Scene.beyond(0, 255)) {
            full.leaves("2 type(" + c + ") when full", x -> x.type(c), BAD);
        }
        full.leaves("2 type(0) when full", x -> x.type(0), FULL);
        full.leaves("2 type(255) when full", x -> x.type(255), FULL);
    }

    private static void clearOfAnEmptyAndAFullText() {
        rich().leaves("3 clear() of none", CastGallery::clear, 0);
        rich().typed("c").changes("3 clear() of one", CastGallery::clear, 1);
        CastGallery x = rich().typed(blanks(150)).made();
        String ahead = Scene.seen(rich().made());
        due("3 clear() of 150", x.clear(), 150);
        CHECK.holds("3 the text alone is empty", Scene.seen(x).equals(ahead));
        due("3 type(0) then", x.type(0), 1);
    }

    private static void hallOfNoItem() {
        CastGallery x = rich().made();
        due("4 hall() of no bytes", x.hall(), 0);
        due("4 no things, no casts", x.count(0) + x.count(1), 0);
        taken("", 0);
        taken(" ", 0);
        taken(blanks(150), 0);
    }

    private static void eightThings() {
        for (int n = 1; n <= 8; n++) {
            due("4 things", taken(THING.repeat(n), n).count(0), n);
        }
        fault(THING.repeat(8) + THING, 88);
        fault(THING.repeat(8) + " t", 89);
        fault(THING.repeat(8) + CAST + "t", 95);
        due("4 a cast behind eight things", taken(THING.repeat(8) + CAST, 9).count(1), 1);
        due("4 all fourteen", taken(THING.repeat(8) + CAST.repeat(6), 14).count(0), 8);
    }

    private static void sixCasts() {
        for (int n = 1; n <= 6; n++) {
            due("4 casts", taken(CAST.repeat(n), n).count(1), n);
        }
        fault(CAST.repeat(6) + CAST, 42);
        fault(CAST.repeat(6) + "  c", 44);
        fault(CAST.repeat(6) + THING + "c", 53);
        due("4 a thing behind six casts", taken(CAST.repeat(6) + THING, 7).count(0), 1);
        fault(THING.repeat(8) + CAST.repeat(6) + "c", 130);
        fault(THING.repeat(8) + CAST.repeat(6) + "t", 130);
    }

    private static void loadFrom0To9() {
        due("4 LOAD 0", taken("t0 1 6 0 0;", 1).thing(0, 0), 0);
        due("4 LOAD 9", taken("t9 1 6 0 0;", 1).thing(0, 0), 9);
        fault("t10 1 6 0 0;", 1);
        fault("t99 1 6 0 0;", 1);
    }

    private static void hardFrom1To30() {
        fault("t0 0 6 0 0;", 3);
        due("4 HARD 1", taken("t0 1 6 0 0;", 1).thing(0, 1), 1);
        due("4 HARD 30", taken("t0 30 6 0 0;", 1).thing(0, 1), 30);
        fault("t0 31 6 0 0;", 3);
    }

    private static void partFrom0To6() {
        due("4 PART 0", taken("t0 1 0 0 0;", 1).thing(0, 2), 0);
        due("4 PART 5", taken("t0 1 5 0 0;", 1).thing(0, 2), 5);
        due("4 PART 6, none", taken("t0 1 6 0 0;", 1).thing(0, 2), 6);
        fault("t0 1 7 0 0;", 5);
        // 6 is no PART: one that LACKS all may learn it, and 5 is one that it LACKS.
        due("4 PART 6 of a cast that lacks all", taken("t0 1 6 0 0;c1 1 63;", 2).cast(0, 6), 1);
        due("4 PART 5 of a cast that lacks all", taken("t0 1 5 0 0;c1 1 63;", 2).cast(0, 6), 0);
    }

    private static void needsToldAhead() {
        due("4 its own number: none", taken("t0 1 6 0 0;", 1).thing(0, 3), 0);
        fault("t0 1 6 1 0;", 7);
        fault("t0 1 6 0 1;", 9);
        for (int t = 1; t < 8; t++) {
            String ahead = THING.repeat(t) + "t0 1 6 ";
            int own = t;
            int place = 11 * t + 7;
            due("4 A just ahead", taken(ahead + (own - 1) + " " + own + ";", t + 1).thing(t, 3), 1 << own - 1);
            due("4 B just ahead", taken(ahead + own + " " + (own - 1) + ";", t + 1).thing(t, 3), 1 << own - 1);
            due("4 both own", taken(ahead + own + " " + own + ";", t + 1).thing(t, 3), 0);
            due("4 both alike", taken(ahead + "0 0;", t + 1).thing(t, 3), 1);
            due("4 two", taken(ahead + "0 " + (own - 1) + ";", t + 1).thing(t, 3), 1 | 1 << own - 1);
            fault(ahead + (own + 1) + " 0;", place);
            fault(ahead + "0 " + (own + 1) + ";", place + 2);
        }
        // Casts between them are no things: the second thing is 1 though it is the third item.
        due("4 own behind a cast", taken(THING + CAST + "t0 1 6 1 0;", 3).thing(1, 3), 1);
        fault(THING + CAST + "t0 1 6 2 0;", 25);
    }

    private static void limeFrom1To99() {
        fault("c0 1 0;", 1);
        due("4 LIME 1", taken("c1 1 0;", 1).cast(0, 0), 1);
        due("4 LIME 99", taken("c99 1 0;", 1).cast(0, 0), 99);
        fault("c100 1 0;", 1);
    }

    private static void witFrom1To9() {
        fault("c1 0 0;", 3);
        due("4 WIT 1", taken("c1 1 0;", 1).cast(0, 1), 1);
        due("4 WIT 9", taken("c1 9 0;", 1).cast(0, 1), 9);
        fault("c1 10 0;", 3);
    }

    private static void lacksFrom0To63() {
        due("4 LACKS 0", taken("c1 1 0;", 1).cast(0, 2), 0);
        due("4 LACKS 63", taken("c1 1 63;", 1).cast(0, 2), 63);
        fault("c1 1 64;", 5);
        fault("c1 1 99;", 5);
    }

    private static void blanksBetweenTokens() {
        due("4 no blank where none is wanted", taken("c1 1 0;", 1).cast(0, 0), 1);
        due("4 many blanks", taken("  c  99   9  63  ;  ", 1).cast(0, 2), 63);
        due("4 without a blank two numbers are one", taken("c12 3 4;", 1).cast(0, 0), 12);
        fault("c12 34;", 4);
        fault("c1 1;", 4);
        for (int c : new int[] {0, 9, 10, 13, 31, 33, 160}) {
            fault("c1" + (char) c + "1 0;", 2);
        }
    }

    private static void lettersFromAToZ() {
        fault("a", 0);
        fault("z", 0);
        fault("`", 0);
        fault("{", 0);
        fault("C1 1 0;", 0);
        // Letters side by side are one TOKEN, other bytes end it: then the next one is at fault.
        fault("cz", 0);
        fault("ca", 0);
        fault("c`", 1);
        fault("c{", 1);
        fault("cC", 1);
        fault("c c", 2);
    }

    private static void lettersThatBeginNoItem() {
        fault("b1 1 0;", 0);
        fault("d1 1 0;", 0);
        fault("s0 1 6 0 0;", 0);
        fault("u0 1 6 0 0;", 0);
        fault("tt0 1 6 0 0;", 0);
        fault("cc1 1 0;", 0);
        fault("ct", 0);
        fault("tc", 0);
        fault(CAST + " x", 8);
        fault(CAST + "tc1 1 0;", 7);
    }

    private static void tokensThatCannotStandThere() {
        fault("5", 0);
        fault(";", 0);
        fault(CAST + ";", 7);
        fault(CAST + "0", 7);
        String[] thing = {"t", "0", "1", "6", "0", "0", ";"};
        String[] cast = {"c", "1", "1", "0", ";"};
        eachReplaced(thing);
        eachReplaced(cast);
        fault("t0 1 6 0 0 0;", 11);
        fault("c1 1 0 0;", 7);
    }

    /** Each TOKEN of an ITEM in its turn gives way to one of another sort. */
    private static void eachReplaced(String[] tokens) {
        StringBuilder ahead = new StringBuilder();
        for (int i = 0; i < tokens.length; i++) {
            boolean number = i > 0 && i < tokens.length - 1;
            for (String other : number ? new String[] {"t", "c", ";", "#"} : new String[] {"0", "x", "#"}) {
                fault(ahead + other + " 1 1", ahead.length());
            }
            ahead.append(tokens[i]).append(' ');
        }
        taken(ahead.toString(), 1);
    }

    private static void bytesThatBeginNone() {
        for (int c : new int[] {0, 31, 33, '/', ':', '<', '@', 'A', 'Z', '[', '`', '{', 127, 128, 255}) {
            fault("" + (char) c, 0);
            fault(CAST + (char) c, 7);
            fault("c1 " + (char) c + " 0;", 3);
        }
        fault("c1 1 -1;", 5);
        fault("c1 1 +1;", 5);
        fault("c1 1 0.", 6);
    }

    private static void numbersUpTo99() {
        due("4 99", taken("c99 1 0;", 1).cast(0, 0), 99);
        fault("c100 1 0;", 1);
        fault("c999 1 0;", 1);
        // Wrapped around in 8, 16, 32, 64 bits these would be 1.
        fault("c257 1 0;", 1);
        fault("c65537 1 0;", 1);
        fault("c4294967297 1 0;", 1);
        fault("c18446744073709551617 1 0;", 1);
        fault("c1" + "0".repeat(140) + " 1 0;", 1);
        fault("100", 0);
        fault(CAST + "100", 7);
        fault("c1 1 0 100", 7);
    }

    private static void noZeroAheadOfOthers() {
        due("4 0 by itself", taken("t0 1 0 0 0;", 1).thing(0, 0), 0);
        due("4 0 behind others", taken("t0 10 0 0 0;", 1).thing(0, 1), 10);
        fault("t00 1 0 0 0;", 1);
        fault("t01 1 0 0 0;", 1);
        fault("t0 01 0 0 0;", 3);
        fault("t0 1 00 0 0;", 5);
        fault("t0 1 0 00 0;", 7);
        fault("t0 1 0 0 00;", 9);
        fault("c01 1 0;", 1);
        fault("c1 09 0;", 3);
        fault("c1 1 063;", 5);
        fault("c1 1 0;0", 7);
        fault("c1 1 0;00", 7);
    }

    private static void textThatEndsTooEarly() {
        for (String item : new String[] {"t 9 30 6 0 0 ;", "c 99 9 63 ;"}) {
            for (int length = 1; length < item.length(); length++) {
                // A number cut short is still one that may be: the text's length is the fault.
                fault(item.substring(0, length), length);
            }
            taken(item, 1);
        }
        fault(CAST + "t", 8);
        fault("c1 1 0   ", 9);
        fault("c1 1 0" + blanks(144), 150);
        fault(blanks(149) + "t", 150);
    }

    private static void theFirstFaultOfSeveral() {
        fault("c1 1 64;#", 5);
        fault("#c1 1 64;", 0);
        fault("c0 0 64", 1);
        fault("c1 0 64", 3);
        fault("t10 31 7 1 1", 1);
        fault("c1 1 0 x # 100", 7);
        fault("x y z", 0);
        fault(" 007 t", 1);
    }

    private static void faultAtTheFarthestPlace() {
        fault(blanks(149) + ";", 149);
        fault(CAST + blanks(142) + "#", 149);
        due("4 no fault there", taken("c1 1 0" + blanks(143) + ";", 1).count(1), 1);
    }

    private static void aFaultLeavesTheText() {
        CastGallery x = rich().typed("c7 1 0").made();
        due("4 ends too early", x.hall(), -16);
        due("4 the text stays", x.count(4), 6);
        due("4 the hall stays", x.count(0) * 10 + x.count(1), 86);
        due("4 one byte more", x.type(';'), 7);
        due("4 hall()", x.hall(), 1);
        due("4 as told now", x.cast(0, 0), 7);
    }

    private static void readAnew() {
        CastGallery x = rich().typed(Scene.FULL_HALL).made();
        long trace = x.trace();
        due("4 read anew", x.hall(), 14);
        due("4 nothing HEARD", x.count(2), 0);
        due("4 nothing to be UNDONE", x.count(3), 0);
        due("4 undo()", x.undo(), STATE);
        due("4 IMAGE 0 is gone", x.back(0), STATE);
        due("4 IMAGE 1 is gone", x.back(1), STATE);
        due("4 the trace stays", x.trace(), trace);
        String told = Scene.seen(Check.told(Scene.FULL_HALL)).replaceFirst(" 0$", " " + trace);
        CHECK.holds("4 all as told", Scene.seen(x).equals(told));
    }

    private static void badThing() {
        thingsBeyond(rich(), 8);
        thingsBeyond(told(Scene.SMALL_HALL), 3);
        Scene rich = rich();
        int[] last = {1, 1, 5, 64, 0};
        for (int what = 0; what <= 4; what++) {
            int asked = what;
            rich.leaves("5 thing(7, " + what + ")", x -> x.thing(7, asked), last[what]);
        }
        rich.leaves("5 thing(0, 4)", x -> x.thing(0, 4), 33);
        rich.leaves("5 thing(6, 4)", x -> x.thing(6, 4), 8);
    }

    private static void thingsBeyond(Scene scene, int things) {
        for (int t : Scene.beyond(0, things - 1)) {
            for (int what = 0; what <= 4; what++) {
                int asked = what;
                scene.leaves("5 thing(" + t + ", " + what + ")", x -> x.thing(t, asked), BAD);
            }
        }
        for (int what : Scene.beyond(0, 4)) {
            scene.leaves("5 thing(0, " + what + ")", x -> x.thing(0, what), BAD);
            scene.leaves("5 thing(" + things + ", " + what + ")", x -> x.thing(things, what), BAD);
        }
    }

    private static void badCast() {
        castsBeyond(rich(), 6);
        castsBeyond(told(Scene.SMALL_HALL), 2);
        Scene rich = rich();
        int[] first = {99, 2, 1, 8, 0, 3, 84, NONE};
        int[] third = {9, 1, 63, 0, 0, 0, 20, 2};
        int[] fifth = {8, 1, 0, 9, 1, 0, 0, NONE};
        int[] last = {30, 5, 32, 0, 0, 1, 86, NONE};
        for (int what = 0; what <= 7; what++) {
            int asked = what;
            rich.leaves("6 cast(0, " + what + ")", x -> x.cast(0, asked), first[what]);
            rich.leaves("6 cast(2, " + what + ")", x -> x.cast(2, asked), third[what]);
            rich.leaves("6 cast(4, " + what + ")", x -> x.cast(4, asked), fifth[what]);
            rich.leaves("6 cast(5, " + what + ")", x -> x.cast(5, asked), last[what]);
        }
    }

    private static void castsBeyond(Scene scene, int casts) {
        for (int c : Scene.beyond(0, casts - 1)) {
            for (int what = 0; what <= 7; what++) {
                int asked = what;
                scene.leaves("6 cast(" + c + ", " + what + ")", x -> x.cast(c, asked), BAD);
            }
        }
        for (int what : Scene.beyond(0, 7)) {
            scene.leaves("6 cast(0, " + what + ")", x -> x.cast(0, what), BAD);
            scene.leaves("6 cast(" + casts + ", " + what + ")", x -> x.cast(casts, what), BAD);
        }
    }

    private static void badFar() {
        farBeyond(rich(), 6, 8);
        farBeyond(told(Scene.SMALL_HALL), 2, 3);
        Scene rich = rich();
        rich.leaves("7 far(0, 0)", x -> x.far(0, 0), 4);
        rich.leaves("7 far(0, 7)", x -> x.far(0, 7), 0);
        rich.leaves("7 far(5, 0)", x -> x.far(5, 0), 5);
        rich.leaves("7 far(5, 7)", x -> x.far(5, 7), 0);
        CastGallery x = Check.told(THING.repeat(7) + "t0 1 6 7 7;" + CAST.repeat(5) + "c1 9 0;");
        x.sets(5, 7);
        x.nights(1);
        due("7 far(5, 7), the last of all", x.far(5, 7), 9);
        due("7 far(5, 6)", x.far(5, 6), 0);
        due("7 far(4, 7)", x.far(4, 7), 0);
    }

    private static void farBeyond(Scene scene, int casts, int things) {
        for (int c : Scene.beyond(0, casts - 1)) {
            scene.leaves("7 far(" + c + ", 0)", x -> x.far(c, 0), BAD);
            scene.leaves("7 far(" + c + ", " + things + ")", x -> x.far(c, things), BAD);
        }
        for (int t : Scene.beyond(0, things - 1)) {
            scene.leaves("7 far(0, " + t + ")", x -> x.far(0, t), BAD);
            scene.leaves("7 far(" + (casts - 1) + ", " + t + ")", x -> x.far(casts - 1, t), BAD);
        }
    }
}
