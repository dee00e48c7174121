/** Each promise by itself: ordinary inputs, the edges that the document names, wrong inputs. */
public final class PromiseTest {
    private static final int BAD = -1, STATE = -2, FULL = -3, NONE = -9, NO = -1000000;

    /** Things 0 (part 1), 1 (part 2, needs 0), 2 (no part), 3 (part 0, needs 1 and 2); three casts. */
    private static final String SCHOOL =
        "t1 4 1 0 0;t2 6 2 0 1;t0 3 6 2 2;t5 9 0 1 2; c10 2 0;c20 3 6;c9 1 63;";

    private static final Check CHECK = new Check();

    public static void main(String[] args) {
        promise01newObject();
        promise02type();
        promise03clear();
        promise04hall();
        promise04faults();
        promise05thing();
        promise06cast();
        promise07far();
        promise08sets();
        promise09nights();
        promise10mends();
        promise11joins();
        promise12undo();
        promise13now();
        promise14plan();
        promise15best();
        promise16own();
        promise17near();
        promise18odds();
        promise19hears();
        promise20forget();
        promise21who();
        promise22ask();
        promise23mark();
        promise24keep();
        promise25back();
        promise26count();
        promise27trace();
        CHECK.end();
    }

    private static void due(String what, long got, long want) {
        CHECK.due(what, got, want);
    }

    /** Sets a cast to a thing and lets so many nights go by. */
    private static void study(CastGallery x, int c, int t, int n) {
        due("study: sets(" + c + ", " + t + ")", x.sets(c, t), NONE);
        x.nights(n);
    }

    private static void promise01newObject() {
        CastGallery x = new CastGallery();
        for (int what = 0; what <= 4; what++) {
            due("1 count(" + what + ")", x.count(what), 0);
            due("1 now(" + what + ")", x.now(what), 0);
        }
        due("1 trace()", x.trace(), 0);
        due("1 undo()", x.undo(), STATE);
        due("1 back(0)", x.back(0), STATE);
        due("1 back(1)", x.back(1), STATE);
        due("1 thing(0, 0)", x.thing(0, 0), BAD);
        due("1 cast(0, 0)", x.cast(0, 0), BAD);
        due("1 own(-1)", x.own(-1), 0);
        due("1 hall()", x.hall(), 0);
    }

    private static void promise02type() {
        CastGallery x = new CastGallery();
        due("2 type(-1)", x.type(-1), BAD);
        due("2 type(256)", x.type(256), BAD);
        due("2 type(MIN)", x.type(Integer.MIN_VALUE), BAD);
        due("2 type(MAX)", x.type(Integer.MAX_VALUE), BAD);
        due("2 nothing came", x.count(4), 0);
        due("2 type(0)", x.type(0), 1);
        due("2 type(255)", x.type(255), 2);
        for (int i = 3; i <= 150; i++) {
            due("2 type(32) " + i, x.type(32), i);
        }
        due("2 type(32) when full", x.type(32), FULL);
        due("2 type(256) when full", x.type(256), BAD);
        due("2 count(4) when full", x.count(4), 150);
    }

    private static void promise03clear() {
        CastGallery x = Check.told(SCHOOL);
        due("3 clear() behind hall()", x.clear(), 0);
        Check.typeAll(x, "abc");
        due("3 clear()", x.clear(), 3);
        due("3 count(4)", x.count(4), 0);
        due("3 the hall stays", x.count(0), 4);
        Check.typeAll(x, "c1 1 0;");
        due("3 nothing of the old text is read", x.hall(), 1);
    }

    private static void promise04hall() {
        CastGallery x = new CastGallery();
        Check.typeAll(x, "  c 99 9 63 ; t9 30 6 0 0;t 0 1 0 0 1 ;c1 1 0;  ");
        due("4 hall()", x.hall(), 4);
        due("4 the text is empty", x.count(4), 0);
        due("4 things", x.count(0), 2);
        due("4 casts", x.count(1), 2);
        due("4 cast(0, 0)", x.cast(0, 0), 99);
        due("4 cast(1, 1)", x.cast(1, 1), 1);
        due("4 thing(0, 2)", x.thing(0, 2), 6);
        due("4 thing(1, 3)", x.thing(1, 3), 1);
        x.sets(1, 0);
        x.nights(2);
        x.hears(0, 1);
        x.keep(0);
        x.keep(1);
        x.mark(5, 0);
        Check.typeAll(x, "c7 1 0;t0 1 6 0 0;c8 2 1;x");
        int fault = x.hall();
        due("4 a fault", fault, -35);
        due("4 a fault changes nothing: casts", x.cast(0, 0), 99);
        due("4 a fault changes nothing: text", x.count(4), 26);
        due("4 a fault changes nothing: undo", x.count(3), 2);
        due("4 a fault changes nothing: heard", x.count(2), 1);
        due("4 a fault changes nothing: class, night", x.now(2) * 10 + x.now(0), 2);
        due("4 a fault changes nothing: broken", x.now(1), 2);
        due("4 a fault changes nothing: cracks", x.cast(1, 3), 9);
        x.clear();
        due("4 hall() of nothing", x.hall(), 0);
        due("4 no things", x.count(0), 0);
        due("4 no casts", x.count(1), 0);
        due("4 nothing heard", x.count(2), 0);
        due("4 nothing to be undone", x.undo(), STATE);
        due("4 no image 0", x.back(0), STATE);
        due("4 no image 1", x.back(1), STATE);
        due("4 night 0", x.now(0), 0);
        due("4 the trace stays", x.trace(), 100001);
        Check.typeAll(x, "   ");
        due("4 hall() of blanks", x.hall(), 0);
        readAnew(Check.told(SCHOOL));
    }

    private static void readAnew(CastGallery x) {
        study(x, 0, 0, 2);
        x.sets(0, 1);
        x.nights(1);
        x.joins(0, 1, 1);
        Check.typeAll(x, SCHOOL);
        due("4 read anew", x.hall(), 7);
        due("4 anew: can", x.cast(0, 5), 0);
        due("4 anew: class", x.cast(0, 7), NONE);
        due("4 anew: cracks", x.cast(0, 3), 0);
        due("4 anew: lacks 0", x.cast(0, 2), 0);
        due("4 anew: lacks 1", x.cast(1, 2), 6);
        due("4 anew: far", x.far(0, 0) + x.far(0, 1), 0);
        due("4 anew: night", x.now(0), 0);
        CastGallery y = Check.told("t9 9 6 0 0;c8 1 0;");
        study(y, 0, 0, 1);
        due("4 broken ahead of it", y.now(1), 1);
        Check.typeAll(y, "t9 9 6 0 0;c8 1 0;");
        due("4 read anew", y.hall(), 2);
        due("4 anew: broken", y.now(1), 0);
        due("4 anew: it may", y.cast(0, 6), 1);
    }

    private static void fault(String text, int place) {
        CastGallery x = new CastGallery();
        Check.typeAll(x, text);
        due("4 fault of '" + text + "'", x.hall(), -10 - place);
        due("4 the text stays: '" + text + "'", x.count(4), text.length());
        due("4 no thing of '" + text + "'", x.count(0), 0);
        due("4 no cast of '" + text + "'", x.count(1), 0);
    }

    private static void promise04faults() {
        fault("t", 1);
        fault("t  ", 3);
        fault("t0 1 6 0 0", 10);
        fault("t0 1 6 0 0;t", 12);
        fault("c1 1 0 ", 7);
        fault(" x", 1);
        fault("tc", 0);
        fault("T", 0);
        fault("5", 0);
        fault(" ;", 1);
        fault("t0 1 6 0 0;;", 11);
        fault("t;", 1);
        fault("tx", 0);
        fault("t x", 2);
        fault("t0 1 6 0 0 0;", 11);
        fault("t0 1 6 0 0 c1 1 0;", 11);
        fault("c1 1;", 4);
        fault("c1 1 0 0;", 7);
        fault("t10 1 6 0 0;", 1);
        fault("t0 0 6 0 0;", 3);
        fault("t0 31 6 0 0;", 3);
        fault("t0 1 7 0 0;", 5);
        fault("t0 1 6 1 0;", 7);
        fault("t0 1 6 0 1;", 9);
        fault("t0 1 6 0 0;t0 1 6 2 0;", 18);
        fault("t0 1 6 0 0;t0 1 6 1 2;", 20);
        fault("c0 1 0;", 1);
        fault("c100 1 0;", 1);
        fault("c1 0 0;", 3);
        fault("c1 10 0;", 3);
        fault("c1 1 64;", 5);
        fault("c01 1 0;", 1);
        fault("c1 1 00;", 5);
        fault("c1 1 0;007", 7);
        fault("c4294967297 1 0;", 1);
        fault("c18446744073709551617 1 0;", 1);
        fault("c1 -1 0;", 3);
        fault("c1\t1 0;", 2);
        fault("c1 1 0;\0", 7);
        fault("c1 1 0;" + (char) 255, 7);
        fault("c1 1 0,", 6);
        fault("c1 1 0;c1 1 0;c1 1 0;c1 1 0;c1 1 0;c1 1 0; c1 1 0;", 43);
        fault("t0 1 6 0 0;t0 1 6 0 0;t0 1 6 0 0;t0 1 6 0 0;t0 1 6 0 0;t0 1 6 0 0;t0 1 6 0 0;t0 1 6 0 0;t", 88);
        // The first that can't stand there, though a worse one follows.
        fault("c1 1 64;#", 5);
        fault("#c", 0);
    }

    private static void promise05thing() {
        CastGallery x = Check.told(SCHOOL);
        int[][] want = {{1, 4, 1, 0, 0}, {2, 6, 2, 1, 0}, {0, 3, 6, 0, 0}, {5, 9, 0, 6, 0}};
        for (int t = 0; t < 4; t++) {
            for (int what = 0; what < 5; what++) {
                due("5 thing(" + t + ", " + what + ")", x.thing(t, what), want[t][what]);
            }
        }
        study(x, 2, 2, 3);
        study(x, 0, 2, 2);
        due("5 who can it", x.thing(2, 4), 5);
        due("5 thing(4, 0)", x.thing(4, 0), BAD);
        due("5 thing(-1, 0)", x.thing(-1, 0), BAD);
        due("5 thing(0, -1)", x.thing(0, -1), BAD);
        due("5 thing(0, 5)", x.thing(0, 5), BAD);
    }

    private static void promise06cast() {
        CastGallery x = Check.told(SCHOOL);
        int[][] want = {{10, 2, 0, 0, 0, 0, 5, NONE}, {20, 3, 6, 0, 0, 0, 4, NONE}, {9, 1, 63, 0, 0, 0, 4, NONE}};
        for (int c = 0; c < 3; c++) {
            for (int what = 0; what < 8; what++) {
                due("6 cast(" + c + ", " + what + ")", x.cast(c, what), want[c][what]);
            }
        }
        study(x, 0, 0, 2);
        due("6 it can 0", x.cast(0, 5), 1);
        due("6 it may 1 and 2", x.cast(0, 6), 6);
        due("6 its cracks", x.cast(0, 3), 2);
        x.sets(0, 1);
        due("6 its class", x.cast(0, 7), 1);
        due("6 cast(3, 0)", x.cast(3, 0), BAD);
        due("6 cast(-1, 0)", x.cast(-1, 0), BAD);
        due("6 cast(0, -1)", x.cast(0, -1), BAD);
        due("6 cast(0, 8)", x.cast(0, 8), BAD);
    }

    private static void promise07far() {
        CastGallery x = Check.told(SCHOOL);
        due("7 far(1, 2) at first", x.far(1, 2), 0);
        x.sets(2, 2);
        x.nights(2);
        due("7 far(2, 2)", x.far(2, 2), 2);
        due("7 of that thing alone", x.far(2, 1), 0);
        due("7 of that cast alone", x.far(1, 2), 0);
        study(x, 1, 2, 9);
        due("7 far(1, 2): it stops once it can", x.far(1, 2), 3);
        due("7 far(3, 0)", x.far(3, 0), BAD);
        due("7 far(-1, 0)", x.far(-1, 0), BAD);
        due("7 far(0, 4)", x.far(0, 4), BAD);
        due("7 far(0, -1)", x.far(0, -1), BAD);
    }

    private static void promise08sets() {
        CastGallery x = Check.told(SCHOOL);
        due("8 sets(0, -1): it is so", x.sets(0, -1), STATE);
        due("8 sets(0, 1): needs 0", x.sets(0, 1), STATE);
        due("8 sets(1, 0): lacks part 1", x.sets(1, 0), STATE);
        due("8 nothing changed", x.count(3) + x.now(2), 0);
        due("8 sets(0, 0)", x.sets(0, 0), NONE);
        due("8 sets(0, 0): it is so", x.sets(0, 0), STATE);
        due("8 sets(0, 2)", x.sets(0, 2), 0);
        due("8 sets(0, -1)", x.sets(0, -1), 2);
        due("8 in no class", x.cast(0, 7), NONE);
        due("8 each can be undone", x.count(3), 3);
        study(x, 0, 0, 2);
        due("8 sets(0, 0): it can it", x.sets(0, 0), STATE);
        due("8 sets(3, 0)", x.sets(3, 0), BAD);
        due("8 sets(-1, 0)", x.sets(-1, 0), BAD);
        due("8 sets(0, 4)", x.sets(0, 4), BAD);
        due("8 sets(0, -2)", x.sets(0, -2), BAD);
    }

    private static void promise09nights() {
        CastGallery x = Check.told("t3 5 6 0 0;t9 1 6 1 1;c9 2 0;c8 2 0;c8 9 0;");
        x.sets(0, 0);
        x.sets(1, 0);
        x.sets(2, 1);
        due("9 nights(0)", x.nights(0), BAD);
        due("9 nights(10)", x.nights(10), BAD);
        due("9 nights(-1)", x.nights(-1), BAD);
        due("9 night 0", x.now(0), 0);
        due("9 nights(1): hard 1, but 9 cracks of 8", x.nights(1), 1);
        due("9 broken", x.now(1), 4);
        due("9 it can't it", x.cast(2, 5), 0);
        due("9 how far", x.far(2, 1), 9);
        due("9 its class", x.cast(2, 7), NONE);
        due("9 far(0, 0)", x.far(0, 0), 2);
        due("9 stays in class", x.now(2), 3);
        due("9 nights(2)", x.nights(2), 2);
        due("9 cracks as much as lime is not broken", x.cast(0, 4), 0);
        due("9 cast 0 can it", x.cast(0, 5), 1);
        due("9 cast 1 is broken", x.cast(1, 4), 1);
        due("9 cast 1 can't it", x.cast(1, 5), 0);
        due("9 cracks", x.cast(0, 3) * 100 + x.cast(1, 3), 909);
        due("9 no class", x.now(2), 0);
        due("9 night", x.now(0), 3);
        due("9 one undo a call", x.count(3), 5);
        for (int i = 0; i < 110; i++) {
            x.nights(9);
        }
        due("9 night 993", x.now(0), 993);
        due("9 nights(7)", x.nights(7), STATE);
        due("9 refused: the night", x.now(0), 993);
        due("9 nights(6)", x.nights(6), 2);
        due("9 night 999", x.now(0), 999);
        due("9 nights(1) at 999", x.nights(1), STATE);
        due("9 nights(10) at 999", x.nights(10), BAD);
    }

    private static void promise10mends() {
        CastGallery x = Check.told("t5 3 6 0 0;c9 1 0;c99 1 0;");
        due("10 mends(0): none", x.mends(0), STATE);
        due("10 nothing to be undone", x.count(3), 0);
        x.sets(0, 0);
        x.sets(1, 0);
        due("10 broken", x.nights(2), 1);
        due("10 mends(0)", x.mends(0), 10);
        due("10 no cracks", x.cast(0, 3), 0);
        due("10 not broken", x.cast(0, 4), 0);
        due("10 as far as it was", x.far(0, 0), 2);
        due("10 mends(1)", x.mends(1), 10);
        due("10 mended in class", x.cast(1, 7), 0);
        due("10 mends(1) again", x.mends(1), STATE);
        due("10 mends(2)", x.mends(2), BAD);
        due("10 mends(-1)", x.mends(-1), BAD);
    }

    private static void promise11joins() {
        CastGallery x = Check.told("t0 9 1 0 0;t0 9 6 1 1;t0 1 1 2 2;c1 1 0;c1 1 6;c1 1 2;");
        due("11 joins(0, 0, 1)", x.joins(0, 0, 1), BAD);
        due("11 joins(3, 0, 1)", x.joins(3, 0, 1), BAD);
        due("11 joins(0, 3, 1)", x.joins(0, 3, 1), BAD);
        due("11 joins(-1, 1, 1)", x.joins(-1, 1, 1), BAD);
        due("11 joins(0, -1, 1)", x.joins(0, -1, 1), BAD);
        due("11 joins(0, 1, 6)", x.joins(0, 1, 6), BAD);
        due("11 joins(0, 1, -1)", x.joins(0, 1, -1), BAD);
        due("11 joins(1, 2, 1): the first one lacks it", x.joins(1, 2, 1), STATE);
        due("11 joins(0, 1, 0): the second one does not", x.joins(0, 1, 0), STATE);
        due("11 nothing changed", x.count(3), 0);
        study(x, 0, 2, 1);
        x.sets(0, 0);
        due("11 joins(0, 1, 2)", x.joins(0, 1, 2), 2);
        due("11 another part's class stays", x.cast(0, 7), 0);
        due("11 joins(0, 1, 1)", x.joins(0, 1, 1), 0);
        due("11 the first one lacks both", x.cast(0, 2), 6);
        due("11 it is in no class", x.cast(0, 7), NONE);
        due("11 what it can it can", x.cast(0, 5), 4);
        x.sets(1, 1);
        due("11 joins(1, 2, 1)", x.joins(1, 2, 1), 0);
        due("11 class of no part stays", x.cast(1, 7), 1);
    }

    private static void promise12undo() {
        CastGallery x = Check.told("t4 9 1 0 0;t9 2 6 1 1;c9 1 0;c9 2 3;");
        due("12 undo() of none", x.undo(), STATE);
        x.sets(0, 0);
        x.nights(3);
        x.mends(0);
        x.sets(0, 0);
        x.hears(0, 0);
        x.joins(0, 1, 1);
        due("12 undo() joins", x.undo(), 4);
        due("12 class, lacks", x.cast(0, 7) * 100 + x.cast(0, 2) * 10 + x.cast(1, 2), 3);
        due("12 heard stays", x.count(2), 1);
        due("12 undo() sets", x.undo(), 3);
        due("12 no class", x.cast(0, 7), NONE);
        due("12 undo() mends", x.undo(), 2);
        due("12 cracks and broken", x.cast(0, 3) * 10 + x.cast(0, 4), 121);
        due("12 undo() nights", x.undo(), 1);
        due("12 night, far, cracks", x.now(0) + x.far(0, 0) + x.cast(0, 3), 0);
        due("12 class", x.cast(0, 7), 0);
        due("12 not broken", x.now(1), 0);
        due("12 undo() sets", x.undo(), 0);
        due("12 no class", x.now(2), 0);
        due("12 undo() of none", x.undo(), STATE);
        study(x, 1, 1, 1);
        due("12 it can it", x.cast(1, 5), 2);
        x.undo();
        due("12 it can't it", x.cast(1, 5), 0);
        x.undo();
        for (int i = 1; i <= 25; i++) {
            x.nights(1);
            due("12 at most ten", x.count(3), Math.min(i, 10));
        }
        for (int i = 9; i >= 0; i--) {
            due("12 undo() of ten", x.undo(), i);
            due("12 night", x.now(0), 15 + i);
        }
        due("12 older ones are lost", x.undo(), STATE);
    }

    private static void promise13now() {
        CastGallery x = Check.told("t9 1 6 0 0;t0 2 6 1 1;c9 1 0;c8 1 7;c1 1 63;c1 2 1;");
        due("13 tree", x.now(4), 6);
        x.sets(0, 0);
        x.sets(1, 0);
        x.sets(2, 1);
        x.sets(3, 1);
        due("13 in class", x.now(2), 15);
        x.nights(1);
        due("13 night", x.now(0), 1);
        due("13 broken", x.now(1), 2);
        due("13 still in class", x.now(2), 4);
        due("13 learnt", x.now(3), 2);
        x.nights(3);
        due("13 learnt by all", x.now(3), 3);
        x.sets(0, 1);
        x.nights(2);
        due("13 each of a cast's things counts", x.now(3), 4);
        x.joins(0, 2, 0);
        due("13 tree behind a join", x.now(4), 0 + 2 + 4);
        due("13 now(5)", x.now(5), BAD);
        due("13 now(-1)", x.now(-1), BAD);
        due("13 tree of one", Check.told("c1 1 63;").now(4), 0);
        due("13 tree of two", Check.told("c1 1 63;c1 1 0;").now(4), 6);
        due("13 tree of like ones", Check.told("c1 1 5;c1 1 5;c1 1 5;").now(4), 0);
        due("13 tree over others", Check.told("c1 1 0;c1 1 63;c1 1 56;c1 1 7;c1 1 1;c1 1 31;").now(4), 9);
    }

    private static void promise14plan() {
        CastGallery x = Check.told(SCHOOL);
        due("14 which", x.plan(0, 1, -1), 3);
        due("14 nights", x.plan(0, 1, -2), 5);
        due("14 cracks", x.plan(0, 1, -3), 8);
        due("14 first", x.plan(0, 1, 0), 0);
        due("14 second", x.plan(0, 1, 1), 1);
        due("14 not so many", x.plan(0, 1, 2), NONE);
        due("14 not so many", x.plan(0, 1, 7), NONE);
        due("14 cracks of 33 in 10", x.plan(0, 3, -1), NONE);
        due("14 a part is lacked", x.plan(1, 1, -1), NONE);
        due("14 a needed one's part is lacked", x.plan(1, 3, 0), NONE);
        due("14 no part", x.plan(2, 2, -2), 3);
        x.sets(0, 1);
        study(x, 0, 0, 1);
        due("14 half of the way", x.plan(0, 1, -2), 4);
        due("14 cracks still to come", x.plan(0, 1, -3), 7);
        x.nights(1);
        due("14 it can 0", x.plan(0, 0, -1), 0);
        due("14 it can 0: nights", x.plan(0, 0, -2), 0);
        due("14 it can 0: cracks", x.plan(0, 0, -3), 0);
        due("14 it can 0: first", x.plan(0, 0, 0), NONE);
        due("14 what it can is not in it", x.plan(0, 1, -1), 2);
        due("14 first of it", x.plan(0, 1, 0), 1);
        due("14 nothing is changed", x.count(3), 3);
        brokenPlan();
        for (int k = -3; k <= 7; k++) {
            due("14 plan(3, 0, " + k + ")", x.plan(3, 0, k), BAD);
            due("14 plan(-1, 0, " + k + ")", x.plan(-1, 0, k), BAD);
            due("14 plan(0, 4, " + k + ")", x.plan(0, 4, k), BAD);
            due("14 plan(0, -1, " + k + ")", x.plan(0, -1, k), BAD);
        }
        due("14 plan(0, 1, -4)", x.plan(0, 1, -4), BAD);
        due("14 plan(0, 1, 8)", x.plan(0, 1, 8), BAD);
    }

    private static void brokenPlan() {
        CastGallery x = Check.told("t0 1 6 0 0;t5 8 6 0 0;t0 9 6 2 2;c14 4 0;");
        due("14 cracks just at the lime", x.plan(0, 1, -3), 10);
        study(x, 0, 0, 1);
        study(x, 0, 1, 1);
        due("14 cracks that are there count", x.plan(0, 1, -3), 5);
        x.sets(0, -1);
        x.undo();
        x.mends(0);
        due("14 a whole cast, mended", x.plan(0, 1, -2), 1);
        CastGallery y = Check.told("t0 1 6 0 0;t9 9 6 1 1;t0 9 6 2 2;c17 4 0;");
        study(y, 0, 0, 1);
        study(y, 0, 1, 1);
        due("14 9 cracks, 18 would be more than 17", y.plan(0, 1, -1), NONE);
        due("14 no load", y.plan(0, 2, -2), 3);
        y.nights(1);
        due("14 broken", y.plan(0, 2, -1), NONE);
        due("14 broken: the order", y.plan(0, 2, 0), NONE);
        due("14 broken, but it can it", y.plan(0, 0, -1), 0);
        y.mends(0);
        due("14 farther than hard: one night at least", y.plan(0, 1, -2), 1);
    }

    private static void promise15best() {
        CastGallery x = Check.told("t1 4 1 0 0;t2 6 2 0 1;t0 9 6 2 2;t5 9 0 1 2;t0 2 6 4 4;c10 2 0;c9 1 63;c9 9 0;");
        due("15 in 0 nights", x.best(0, 0, 0), 0);
        due("15 in 0 nights", x.best(0, 0, 1), 0);
        due("15 in 1 night", x.best(0, 1, 0), 16);
        due("15 in 3 nights", x.best(0, 3, 0), 17);
        due("15 in 3 nights", x.best(0, 3, 1), 3);
        due("15 in 5 nights: not 1 without 0", x.best(0, 5, 0), 17);
        due("15 in 6 nights", x.best(0, 6, 0), 19);
        due("15 in 6 nights", x.best(0, 6, 1), 6);
        due("15 in 8 nights: fewest nights", x.best(0, 8, 0), 19);
        due("15 in 99 nights: cracks", x.best(0, 99, 0), 23);
        due("15 in 99 nights", x.best(0, 99, 1), 11);
        due("15 parts that it lacks", x.best(1, 99, 0), 20);
        due("15 all in five", x.best(2, 99, 1), 5);
        due("15 least bits", x.best(2, 2, 0), 3);
        due("15 nothing is changed", x.count(3), 0);
        study(x, 0, 0, 2);
        due("15 what it can is not in it", x.best(0, 3, 0), 16);
        due("15 what it needs it can", x.best(0, 4, 0), 18);
        CastGallery y = Check.told("t9 9 6 0 0;t0 1 6 1 1;c8 1 0;");
        study(y, 0, 0, 1);
        due("15 a broken one", y.best(0, 99, 0), 0);
        due("15 a broken one", y.best(0, 99, 1), 0);
        due("15 best(3, 0, 0)", x.best(3, 0, 0), BAD);
        due("15 best(-1, 0, 0)", x.best(-1, 0, 0), BAD);
        due("15 best(0, -1, 0)", x.best(0, -1, 0), BAD);
        due("15 best(0, 100, 0)", x.best(0, 100, 0), BAD);
        due("15 best(0, 0, -1)", x.best(0, 0, -1), BAD);
        due("15 best(0, 0, 2)", x.best(0, 0, 2), BAD);
    }

    private static void promise16own() {
        CastGallery x = Check.told("t0 1 0 0 0;t0 1 1 1 1;t0 1 2 2 2;c1 1 0;c1 1 6;c1 1 4;");
        due("16 how many", x.own(-1), 3);
        // Cast 1 may learn 0 alone, cast 2 0 and 1; so cast 0 with 0 would cost one.
        due("16 cast 0", x.own(0), 2);
        due("16 cast 1", x.own(1), 0);
        due("16 cast 2", x.own(2), 1);
        due("16 nothing is changed", x.now(2) + x.count(3), 0);
        study(x, 1, 0, 1);
        due("16 it can 0 now", x.own(1), NONE);
        due("16 two", x.own(-1), 2);
        due("16 the lowest first", x.own(0) * 10 + x.own(2), 1);
        due("16 own(3)", x.own(3), BAD);
        due("16 own(4)", x.own(4), BAD);
        due("16 own(-2)", x.own(-2), BAD);
        CastGallery z = Check.told("t0 1 0 0 0;t0 1 1 1 1;t0 1 2 2 2;c1 1 0;c1 1 6;c1 1 4;c1 1 0;");
        due("16 three of four", z.own(-1), 3);
        due("16 the first of several ways: cast 0", z.own(0), 0);
        due("16 the first of several ways: cast 1", z.own(1), NONE);
        due("16 the first of several ways: cast 2, cast 3", z.own(2) * 10 + z.own(3), 12);
        CastGallery y = Check.told("t9 9 6 0 0;t0 1 6 0 1;t0 9 6 2 2;c1 1 0;c1 1 0;c1 1 0;");
        study(y, 0, 0, 1);
        due("16 a broken one has none", y.own(0), NONE);
        due("16 the others", y.own(1) * 10 + y.own(2), 2);
        due("16 two", y.own(-1), 2);
    }

    private static void promise17near() {
        CastGallery x = Check.told("c1 1 0;c1 1 63;c1 1 42;");
        due("17 near(0, 1)", x.near(0, 1), 6);
        due("17 near(1, 2)", x.near(1, 2), 3);
        due("17 near(2, 0)", x.near(2, 0), 3);
        x.joins(0, 1, 0);
        due("17 behind a join", x.near(0, 1), 6);
        due("17 behind a join", x.near(0, 2), 4);
        due("17 near(0, 0)", x.near(0, 0), BAD);
        due("17 near(0, 3)", x.near(0, 3), BAD);
        due("17 near(3, 0)", x.near(3, 0), BAD);
        due("17 near(-1, 0)", x.near(-1, 0), BAD);
        due("17 near(0, -1)", x.near(0, -1), BAD);
    }

    private static void odds(CastGallery x, int chance, int k, int upper, int lower) {
        due("18 odds(" + chance + ", " + k + ", 0)", x.odds(chance, k, 0), upper);
        due("18 odds(" + chance + ", " + k + ", 1)", x.odds(chance, k, 1), lower);
    }

    private static void promise18odds() {
        CastGallery x = Check.told("t9 9 6 0 0;c1 1 0;c1 1 0;c1 1 0;c1 1 0;c1 1 0;c1 1 0;");
        odds(x, 0, 0, 1, 1);
        odds(x, 10, 0, 0, 1);
        odds(x, 10, 5, 0, 1);
        odds(x, 10, 6, 1, 1);
        odds(x, 5, 0, 1, 64);
        odds(x, 5, 1, 7, 64);
        odds(x, 5, 3, 21, 32);
        odds(x, 3, 0, 117649, 1000000);
        odds(x, 3, 6, 1, 1);
        odds(x, 9, 5, 468559, 1000000);
        study(x, 0, 0, 1);
        odds(x, 5, 0, 1, 32);
        odds(x, 2, 1, 2304, 3125);
        due("18 odds(-1, 0, 0)", x.odds(-1, 0, 0), BAD);
        due("18 odds(11, 0, 0)", x.odds(11, 0, 0), BAD);
        due("18 odds(0, -1, 0)", x.odds(0, -1, 0), BAD);
        due("18 odds(0, 7, 0)", x.odds(0, 7, 0), BAD);
        due("18 odds(0, 0, -1)", x.odds(0, 0, -1), BAD);
        due("18 odds(0, 0, 2)", x.odds(0, 0, 2), BAD);
        odds(new CastGallery(), 10, 0, 1, 1);
    }

    /** Casts 0 .. 4 that can: 0 none, 1 thing 0, 2 things 0 and 1, 3 thing 2, 4 things 0, 1 and 2. */
    private static CastGallery learned() {
        CastGallery x = Check.told("t0 1 0 0 0;t0 1 1 1 1;t0 1 2 2 2;t0 1 6 3 3;c1 9 0;c1 9 0;c1 9 0;c1 9 0;c1 9 0;");
        int[][] lessons = {{1, 0}, {2, 0}, {2, 1}, {3, 2}, {4, 0}, {4, 1}, {4, 2}};
        for (int[] lesson : lessons) {
            study(x, lesson[0], lesson[1], 1);
        }
        return x;
    }

    private static void promise19hears() {
        CastGallery x = learned();
        due("19 hears(4, 1)", x.hears(4, 1), BAD);
        due("19 hears(-1, 1)", x.hears(-1, 1), BAD);
        due("19 hears(0, 2)", x.hears(0, 2), BAD);
        due("19 hears(0, -1)", x.hears(0, -1), BAD);
        for (int i = 1; i <= 6; i++) {
            due("19 hears(0, 1)", x.hears(0, 1), i);
        }
        due("19 hears(0, 1) of a seventh", x.hears(0, 1), FULL);
        due("19 hears(4, 1) when full", x.hears(4, 1), BAD);
        due("19 six", x.count(2), 6);
        due("19 a refused one is not heard", x.hears(2, 0) + x.who(), FULL + 22);
    }

    private static void promise20forget() {
        CastGallery x = learned();
        due("20 forget() of none", x.forget(), 0);
        x.hears(0, 1);
        x.hears(1, 0);
        due("20 forget()", x.forget(), 2);
        due("20 none", x.count(2), 0);
        due("20 who() then", x.who(), 31);
        due("20 hears() then", x.hears(0, 1), 1);
        due("20 of the new alone", x.who(), 22);
    }

    private static void promise21who() {
        CastGallery x = learned();
        due("21 nothing heard", x.who(), 31);
        x.hears(0, 1);
        due("21 can 0", x.who(), 22);
        x.hears(2, 0);
        due("21 can't 2", x.who(), 6);
        x.hears(1, 0);
        due("21 can't 1", x.who(), 2);
        study(x, 0, 0, 1);
        due("21 what it can now", x.who(), 3);
        x.hears(0, 0);
        due("21 can and can't", x.who(), 0);
        due("21 none at all", new CastGallery().who(), 0);
    }

    private static void promise22ask() {
        CastGallery x = learned();
        due("22 ask(): 3 to 2, the lowest of several", x.ask(), 0);
        x.hears(0, 1);
        due("22 ask(): all of 0, two of 1, one of 2", x.ask(), 1);
        x.hears(1, 1);
        due("22 ask(): one of two", x.ask(), 2);
        x.hears(2, 1);
        due("22 ask() of one", x.ask(), NONE);
        x.hears(2, 0);
        due("22 ask() of none", x.ask(), NONE);
        due("22 none parts them", Check.told("t0 1 6 0 0;c1 1 0;c1 1 0;").ask(), NONE);
        CastGallery y = Check.told("t0 1 6 0 0;t0 1 6 1 1;c1 1 0;c1 1 0;c1 1 0;c1 1 0;");
        study(y, 0, 0, 1);
        due("22 ask(): 1 to 3", y.ask(), 0);
        study(y, 1, 1, 1);
        study(y, 2, 1, 1);
        due("22 ask(): 2 to 2 is better", y.ask(), 1);
    }

    private static void promise23mark() {
        CastGallery x = Check.told("t3 4 1 0 0;t2 2 6 1 1;c99 2 0;c99 2 13;");
        study(x, 1, 0, 2);
        study(x, 1, 1, 3);
        // Cast 1: 8 cracks, can 2 things, lacks 3 parts, in night 5.
        int[] want = {8, 10, 5, 20, 6, 13};
        for (int kind = 0; kind <= 5; kind++) {
            due("23 mark(" + kind + ", 1)", x.mark(kind, 1), want[kind]);
        }
        due("23 mark(4, 0)", x.mark(4, 0), 0);
        x.mends(1);
        due("23 below 0", x.mark(2, 1), -3);
        due("23 mark(6, 0)", x.mark(6, 0), NO);
        due("23 mark(-1, 0)", x.mark(-1, 0), NO);
        due("23 mark(0, 2)", x.mark(0, 2), NO);
        due("23 mark(0, -1)", x.mark(0, -1), NO);
    }

    private static void promise24keep() {
        CastGallery x = Check.told("t3 9 1 0 0;c9 2 0;c9 2 2;");
        due("24 keep(2)", x.keep(2), BAD);
        due("24 keep(-1)", x.keep(-1), BAD);
        due("24 none was kept", x.back(0), STATE);
        study(x, 0, 0, 2);
        due("24 keep(1)", x.keep(1), 2);
        due("24 keep() can't be undone", x.count(3), 2);
        x.nights(1);
        due("24 keep(1) again", x.keep(1), 3);
        x.nights(5);
        due("24 the later one", x.back(1), 3);
        due("24 of image 1 alone", x.back(0), STATE);
    }

    private static void promise25back() {
        CastGallery x = Check.told("t3 9 1 0 0;t9 1 6 1 1;c9 5 0;c9 2 2;");
        due("25 back(2)", x.back(2), BAD);
        due("25 back(-1)", x.back(-1), BAD);
        due("25 back(0)", x.back(0), STATE);
        x.sets(0, 0);
        x.nights(1);
        x.keep(0);
        x.nights(1);
        x.keep(1);
        x.joins(0, 1, 1);
        x.sets(0, 1);
        x.nights(1);
        x.hears(1, 1);
        x.mark(0, 0);
        Check.typeAll(x, "abc");
        due("25 back(0)", x.back(0), 1);
        due("25 class", x.cast(0, 7), 0);
        due("25 far", x.far(0, 0), 5);
        due("25 far of 1", x.far(0, 1), 0);
        due("25 cracks", x.cast(0, 3), 3);
        due("25 lacks", x.cast(0, 2) * 10 + x.cast(1, 2), 2);
        due("25 can", x.cast(0, 5), 0);
        due("25 broken", x.now(1), 0);
        due("25 heard stays", x.count(2), 1);
        due("25 the text stays", x.count(4), 3);
        due("25 the trace stays", x.trace(), 1);
        due("25 what may be undone", x.count(3), 2);
        due("25 undo()", x.undo(), 1);
        due("25 the night", x.now(0), 0);
        due("25 undo()", x.undo(), 0);
        due("25 no class", x.now(2), 0);
        due("25 back(1)", x.back(1), 2);
        due("25 it can it", x.cast(0, 5), 1);
        due("25 undo() of the image", x.undo(), 2);
        due("25 it can't it", x.cast(0, 5), 0);
        due("25 an image stays", x.back(1), 2);
        due("25 unspoilt by undo()", x.count(3), 3);
    }

    private static void promise26count() {
        CastGallery x = Check.told(SCHOOL);
        due("26 things", x.count(0), 4);
        due("26 casts", x.count(1), 3);
        due("26 heard", x.count(2), 0);
        x.hears(0, 1);
        x.hears(0, 1);
        due("26 heard", x.count(2), 2);
        x.nights(1);
        due("26 to be undone", x.count(3), 1);
        x.type(32);
        due("26 bytes", x.count(4), 1);
        due("26 count(5)", x.count(5), BAD);
        due("26 count(-1)", x.count(-1), BAD);
    }

    private static void promise27trace() {
        CastGallery x = Check.told("c1 1 0;");
        int[] left = {1, 11, 101, 1011, 10101, 100001};
        long sum = 0;
        for (int kind = 0; kind <= 5; kind++) {
            x.mark(kind, 0);
            sum += left[kind];
            due("27 trace() behind kind " + kind, x.trace(), sum);
        }
        x.mark(6, 0);
        x.mark(0, 1);
        due("27 a refused one leaves none", x.trace(), sum);
        x.nights(1);
        x.keep(0);
        x.mark(5, 0);
        x.undo();
        x.back(0);
        due("27 neither undone nor in an image", x.trace(), sum + 100001);
    }
}
