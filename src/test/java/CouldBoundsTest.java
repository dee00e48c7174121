/** Boundary cases of what could be (Terms, part 3, promises 14 to 18): each sentence's last taken and first refused. */
public final class CouldBoundsTest extends Bounds {
    /** Each of eight things needs the one ahead of it. */
    private static final String CHAIN =
        "t0 1 6 0 0;t0 1 6 0 0;t0 1 6 1 1;t0 1 6 2 2;t0 1 6 3 3;t0 1 6 4 4;t0 1 6 5 5;t0 1 6 6 6;";

    public static void main(String[] args) {
        badPlan();
        planOfTheKth();
        planOfABrokenOne();
        planWithoutAPart();
        planOfCracksAsManyAsLime();
        planOfWhatItCan();
        planOfWhatItNeeds();
        costRoundedUp();
        costOneAtLeast();
        badBest();
        bestInJustSoManyNights();
        bestOfCracksAsManyAsLime();
        bestWithoutPartsAndNeeds();
        bestOfSeveral();
        bestOfABrokenOne();
        badOwn();
        ownOfNoneAndOfAll();
        ownOfSeveral();
        ownOfFewerReadAnew();
        badNear();
        nearFrom0To6();
        badOdds();
        oddsFrom0To10();
        oddsOfNoCasts();
        oddsInLeastTerms();
        nothingIsChanged();
        CHECK.end();
    }

    /** All four answers of a PLAN that can't be so. */
    private static void cannot(String why, CastGallery x, int c, int t) {
        for (int k = -3; k <= 7; k++) {
            due("14 plan(" + c + ", " + t + ", " + k + "): " + why, x.plan(c, t, k), NONE);
        }
    }

    private static void plan(String why, CastGallery x, int t, int which, int nights, int cracks) {
        due("14 which: " + why, x.plan(0, t, -1), which);
        due("14 NIGHTS: " + why, x.plan(0, t, -2), nights);
        due("14 CRACKS: " + why, x.plan(0, t, -3), cracks);
    }

    private static void badPlan() {
        planBeyond(rich(), 6, 8);
        planBeyond(told(Scene.SMALL_HALL), 2, 3);
        for (int k : Scene.beyond(-3, 7)) {
            rich().leaves("14 plan(0, 0, " + k + ")", x -> x.plan(0, 0, k), BAD);
            rich().leaves("14 plan(4, 4, " + k + ") of a broken one", x -> x.plan(4, 4, k), BAD);
        }
        rich().leaves("14 plan(5, 7, -3), the last of all", x -> x.plan(5, 7, -3), NONE);
        rich().leaves("14 plan(5, 6, 7)", x -> x.plan(5, 6, 7), NONE);
        rich().leaves("14 plan(5, 6, -3)", x -> x.plan(5, 6, -3), 0);
        rich().leaves("14 plan(5, 6, -2)", x -> x.plan(5, 6, -2), 1);
    }

    private static void planBeyond(Scene scene, int casts, int things) {
        for (int k = -3; k <= 7; k++) {
            int kth = k;
            for (int c : Scene.beyond(0, casts - 1)) {
                scene.leaves("14 plan(" + c + ", 0, " + k + ")", x -> x.plan(c, 0, kth), BAD);
            }
            for (int t : Scene.beyond(0, things - 1)) {
                scene.leaves("14 plan(0, " + t + ", " + k + ")", x -> x.plan(0, t, kth), BAD);
            }
        }
    }

    private static void planOfTheKth() {
        CastGallery x = Check.told(CHAIN + "c1 1 0;");
        for (int t = 0; t < 8; t++) {
            for (int k = 0; k <= 7; k++) {
                due("14 plan(0, " + t + ", " + k + ")", x.plan(0, t, k), k <= t ? k : NONE);
            }
            plan("of the chain", x, t, (1 << t + 1) - 1, t + 1, 0);
        }
        CastGallery y = Check.told("t0 1 6 0 0;t0 1 6 1 1;t0 1 6 0 1;t0 1 6 3 3;t0 1 6 2 3;c1 1 0;");
        int[] order = {0, 1, 2, 3, 4, NONE, NONE, NONE};
        for (int k = 0; k <= 7; k++) {
            due("14 of those that could be next the lowest: " + k, y.plan(0, 4, k), order[k]);
        }
        due("14 what is not needed is not in it", y.plan(0, 3, -1), 8);
        due("14 the first of one", y.plan(0, 3, 0), 3);
        due("14 the second of one", y.plan(0, 3, 1), NONE);
    }

    private static void planOfABrokenOne() {
        CastGallery x = Check.told("t9 9 6 0 0;t0 1 6 1 1;c9 1 0;c8 1 0;");
        x.sets(0, 0);
        x.sets(1, 0);
        x.nights(1);
        due("14 9 cracks in 9: not broken", x.plan(0, 1, -1), 2);
        cannot("it is broken", x, 1, 1);
        x.mends(1);
        due("14 mended", x.plan(1, 1, -1), 2);
    }

    private static void planWithoutAPart() {
        for (int part = 0; part <= 5; part++) {
            String things = "t0 1 " + part + " 0 0;t0 1 6 0 0;";
            CastGallery lacking = Check.told(things + "c1 1 " + (1 << part) + ";");
            cannot("it lacks part " + part, lacking, 0, 0);
            cannot("it lacks part " + part + " of what that needs", lacking, 0, 1);
            CastGallery having = Check.told(things + "c1 1 " + (63 - (1 << part)) + ";");
            plan("it lacks all but " + part, having, 1, 3, 2, 0);
        }
        plan("no part", Check.told("t0 1 6 0 0;c1 1 63;"), 0, 1, 1, 0);
        CastGallery x = Check.told("t0 1 0 0 0;t0 1 6 0 0;c1 1 0;c1 1 1;");
        study(x, 0, 0, 1);
        x.joins(0, 1, 0);
        plan("a lacked part of what it can", x, 1, 2, 1, 0);
    }

    private static void planOfCracksAsManyAsLime() {
        plan("9 in 9", Check.told("t9 1 6 0 0;c9 1 0;"), 0, 1, 1, 9);
        cannot("9 in 8", Check.told("t9 1 6 0 0;c8 1 0;"), 0, 0);
        plan("99 in 99", Check.told("t9 11 6 0 0;c99 1 0;"), 0, 1, 11, 99);
        cannot("108 in 99", Check.told("t9 12 6 0 0;c99 1 0;"), 0, 0);
        plan("2 and 3 in 5", Check.told("t2 1 6 0 0;t3 1 6 0 0;c5 1 0;"), 1, 3, 2, 5);
        cannot("2 and 3 in 4", Check.told("t2 1 6 0 0;t3 1 6 0 0;c4 1 0;"), 0, 1);
        plan("no load at all", Check.told("t0 30 6 0 0;c1 1 0;"), 0, 1, 30, 0);
        // Those that it has count against its LIME; the answer is of those to come.
        CastGallery x = Check.told("t4 1 6 0 0;t5 1 6 0 0;t6 1 6 0 0;c9 1 0;");
        study(x, 0, 0, 1);
        plan("4 and 5 in 9", x, 1, 2, 1, 5);
        cannot("4 and 6 in 9", x, 0, 2);
        x.mends(0);
        plan("6 in 9", x, 2, 4, 1, 6);
        due("14 the most that can be: 240 nights", Check.told(CHAIN.replace("t0 1 ", "t0 30 ") + "c1 1 0;").plan(0, 7, -2), 240);
    }

    private static void planOfWhatItCan() {
        CastGallery x = Check.told("t0 2 6 0 0;t9 9 6 1 1;t0 1 6 0 0;c8 1 0;");
        study(x, 0, 0, 1);
        plan("one night short", x, 0, 1, 1, 0);
        due("14 the first", x.plan(0, 0, 0), 0);
        x.nights(1);
        plan("it can it", x, 0, 0, 0, 0);
        for (int k = 0; k <= 7; k++) {
            due("14 it can it: not so many", x.plan(0, 0, k), NONE);
        }
        plan("what it needs it can", x, 2, 4, 1, 0);
        study(x, 0, 1, 1);
        due("14 broken", x.now(1), 1);
        plan("broken, but it can it", x, 0, 0, 0, 0);
        cannot("broken", x, 0, 2);
    }

    private static void planOfWhatItNeeds() {
        CastGallery x = Check.told("t1 1 6 0 0;t2 1 6 0 0;t3 1 6 2 2;t4 1 6 1 2;t5 1 6 0 1;c99 1 0;");
        plan("by itself", x, 2, 4, 1, 3);
        plan("what that needs, too", x, 3, 15, 4, 10);
        plan("needed twice, learnt once", x, 4, 19, 3, 8);
        study(x, 0, 0, 1);
        plan("but what it can", x, 3, 14, 3, 9);
    }

    private static void costRoundedUp() {
        int[] nights = {30, 15, 10, 8, 6, 5, 5, 4, 4};
        for (int wit = 1; wit <= 9; wit++) {
            plan("30 by " + wit, Check.told("t1 30 6 0 0;c99 " + wit + " 0;"), 0, 1, nights[wit - 1], nights[wit - 1]);
        }
        plan("1 by 9", Check.told("t9 1 6 0 0;c99 9 0;"), 0, 1, 1, 9);
        plan("8 by 9", Check.told("t9 8 6 0 0;c99 9 0;"), 0, 1, 1, 9);
        plan("9 by 9", Check.told("t9 9 6 0 0;c99 9 0;"), 0, 1, 1, 9);
        plan("10 by 9", Check.told("t9 10 6 0 0;c99 9 0;"), 0, 1, 2, 18);
        plan("18 by 9", Check.told("t9 18 6 0 0;c99 9 0;"), 0, 1, 2, 18);
        plan("19 by 9", Check.told("t9 19 6 0 0;c99 9 0;"), 0, 1, 3, 27);
        CastGallery x = Check.told("t1 10 6 0 0;c99 3 0;");
        int[] left = {4, 3, 2, 1};
        x.sets(0, 0);
        for (int n = 0; n < 4; n++) {
            plan("what it is not far yet, night " + n, x, 0, 1, left[n], left[n]);
            x.nights(1);
        }
        plan("learnt", x, 0, 0, 0, 0);
    }

    /** As far as HARD or farther without being able: only one that broke in that night. */
    private static void costOneAtLeast() {
        for (String hard : new String[] {"5", "6", "7"}) {
            CastGallery x = Check.told("t2 " + hard + " 6 0 0;t1 1 6 1 1;c4 3 0;");
            study(x, 0, 1, 1);
            study(x, 0, 0, 2);
            due("14 6 far, broken", x.now(1) * 10 + x.far(0, 0), 16);
            x.mends(0);
            plan("6 far of " + hard, x, 0, 1, 1, 2);
            study(x, 0, 0, 1);
            due("14 it takes one night", x.cast(0, 5), 3);
        }
    }

    private static void badBest() {
        bestBeyond(rich(), 6);
        bestBeyond(told(Scene.SMALL_HALL), 2);
        for (int n : Scene.beyond(0, 99)) {
            rich().leaves("15 best(0, " + n + ", 0)", x -> x.best(0, n, 0), BAD);
            rich().leaves("15 best(4, " + n + ", 1) of a broken one", x -> x.best(4, n, 1), BAD);
        }
        for (int what : Scene.beyond(0, 1)) {
            rich().leaves("15 best(0, 0, " + what + ")", x -> x.best(0, 0, what), BAD);
            rich().leaves("15 best(4, 99, " + what + ") of a broken one", x -> x.best(4, 99, what), BAD);
        }
        rich().leaves("15 best(5, 0, 0)", x -> x.best(5, 0, 0), 0);
        rich().leaves("15 best(5, 0, 1)", x -> x.best(5, 0, 1), 0);
        rich().leaves("15 best(5, 1, 0)", x -> x.best(5, 1, 0), 4);
        rich().leaves("15 best(5, 1, 1)", x -> x.best(5, 1, 1), 1);
    }

    private static void bestBeyond(Scene scene, int casts) {
        for (int c : Scene.beyond(0, casts - 1)) {
            scene.leaves("15 best(" + c + ", 0, 0)", x -> x.best(c, 0, 0), BAD);
            scene.leaves("15 best(" + c + ", 99, 1)", x -> x.best(c, 99, 1), BAD);
        }
    }

    private static void best(String why, CastGallery x, int n, int which, int nights) {
        due("15 best(0, " + n + ", 0): " + why, x.best(0, n, 0), which);
        due("15 best(0, " + n + ", 1): " + why, x.best(0, n, 1), nights);
    }

    private static void bestInJustSoManyNights() {
        CastGallery x = Check.told("t0 30 6 0 0;t0 30 6 1 1;t0 30 6 2 2;t0 9 6 3 3;c1 1 0;");
        best("none", x, 0, 0, 0);
        best("9 of 8", x, 8, 0, 0);
        best("9 of 9", x, 9, 8, 9);
        best("39 of 38", x, 38, 8, 9);
        best("39 of 39", x, 39, 9, 39);
        best("99 of 98", x, 98, 11, 69);
        best("99 of 99", x, 99, 15, 99);
        CastGallery y = Check.told("t0 30 6 0 0;t0 30 6 1 1;t0 30 6 2 2;t0 10 6 3 3;c1 1 0;");
        best("100 of 99", y, 99, 11, 70);
        CastGallery z = Check.told(CHAIN + "c1 1 0;");
        for (int n = 0; n <= 9; n++) {
            int many = Math.min(n, 8);
            best("of the chain", z, n, (1 << many) - 1, many);
        }
        best("one night at least each", Check.told("t0 1 6 0 0;t0 1 6 1 1;c1 9 0;"), 1, 1, 1);
    }

    private static void bestOfCracksAsManyAsLime() {
        String things = "t4 1 6 0 0;t5 1 6 1 1;";
        best("4 and 5 in 9", Check.told(things + "c9 1 0;"), 99, 3, 2);
        best("4 and 5 in 8", Check.told(things + "c8 1 0;"), 99, 1, 1);
        best("5 in 4", Check.told("t5 1 6 0 0;t4 1 6 1 1;c4 1 0;"), 99, 2, 1);
        best("4 in 3", Check.told(things + "c3 1 0;"), 99, 0, 0);
        best("no load", Check.told("t0 9 6 0 0;t9 1 6 1 1;c1 1 0;"), 99, 1, 9);
        CastGallery x = Check.told("t4 1 6 0 0;t5 1 6 1 1;t6 1 6 2 2;c9 1 0;");
        study(x, 0, 0, 1);
        best("5 more in 9, not 6", x, 99, 2, 1);
        x.mends(0);
        best("5 or 6 in 9", x, 99, 2, 1);
    }

    private static void bestWithoutPartsAndNeeds() {
        for (int part = 0; part <= 5; part++) {
            String things = "t0 1 " + part + " 0 0;t0 1 6 0 0;";
            best("it lacks part " + part, Check.told(things + "c1 1 " + (1 << part) + ";"), 99, 0, 0);
            best("all but " + part, Check.told(things + "c1 1 " + (63 - (1 << part)) + ";"), 99, 3, 2);
        }
        String needy = "t0 9 6 0 0;t0 1 6 0 0;t0 2 6 2 2;";
        best("1 of 2 nights without 0", Check.told(needy + "c1 1 0;"), 9, 4, 2);
        CastGallery x = Check.told(needy + "c1 1 0;");
        study(x, 0, 0, 9);
        best("1 behind 0", x, 1, 2, 1);
        best("what it can is not in it", x, 99, 6, 3);
    }

    private static void bestOfSeveral() {
        best("most, though more nights", Check.told("t0 2 6 0 0;t0 1 6 1 1;t0 2 6 2 2;c1 1 0;"), 4, 3, 3);
        best("two of five nights over one of one", Check.told("t0 1 6 0 0;t0 4 6 0 0;c1 1 0;"), 5, 3, 5);
        best("fewest nights, though more bits", Check.told("t0 3 6 0 0;t0 2 6 1 1;c1 1 0;"), 4, 2, 2);
        best("least bits", Check.told("t0 2 6 0 0;t0 2 6 1 1;t0 2 6 2 2;c1 1 0;"), 5, 3, 4);
        best("least bits of one", Check.told("t0 2 6 0 0;t0 2 6 1 1;c1 1 0;"), 3, 1, 2);
        best("all of eight", Check.told(Scene.FULL_HALL.replace("c99 2 0;", "c99 9 0;")), 99, 255, 8);
    }

    private static void bestOfABrokenOne() {
        CastGallery x = Check.told("t9 9 6 0 0;t0 1 6 1 1;c8 1 0;");
        best("whole", x, 99, 2, 1);
        study(x, 0, 0, 1);
        for (int n = 0; n <= 99; n++) {
            best("broken", x, n, 0, 0);
        }
        x.mends(0);
        best("mended", x, 99, 2, 1);
    }

    private static void badOwn() {
        for (int c : Scene.beyond(-1, 5)) {
            rich().leaves("16 own(" + c + ")", x -> x.own(c), BAD);
        }
        for (int c : Scene.beyond(-1, 1)) {
            told(Scene.SMALL_HALL).leaves("16 own(" + c + ")", x -> x.own(c), BAD);
        }
        rich().leaves("16 own(-1)", x -> x.own(-1), 5);
        // Cast 1 may learn 4 and 6, cast 2 only 2 and 4: behind 2 and 4 it would be left with none.
        int[] want = {2, 6, 4, 0, NONE, 1};
        for (int c = 0; c < 6; c++) {
            int asked = c;
            rich().leaves("16 own(" + c + ")", x -> x.own(asked), want[c]);
        }
    }

    private static void ownOfNoneAndOfAll() {
        own("no things", Check.told("c1 1 0;c1 1 0;"), 0, NONE, NONE);
        due("16 no casts", Check.told("t0 1 6 0 0;").own(-1), 0);
        own("one thing for two", Check.told("t0 1 6 0 0;c1 1 0;c1 1 0;"), 1, 0, NONE);
        own("two for one", Check.told("t0 1 6 0 0;t0 1 6 1 1;c1 1 0;"), 1, 0);
        own("none that one may learn", Check.told("t0 1 0 0 0;c1 1 1;"), 0, NONE);
        own("one thing for six", Check.told("t0 1 6 0 0;" + "c1 1 0;".repeat(6)), 1, 0, NONE, NONE, NONE, NONE, NONE);
        String eight = "t0 1 6 0 0;t0 1 6 1 1;t0 1 6 2 2;t0 1 6 3 3;t0 1 6 4 4;t0 1 6 5 5;t0 1 6 6 6;t0 1 6 7 7;";
        own("eight for six", Check.told(eight + "c1 1 0;".repeat(6)), 6, 0, 1, 2, 3, 4, 5);
        CastGallery x = Check.told("t9 1 6 0 0;t0 1 6 1 1;c9 1 0;c8 1 0;");
        x.sets(0, 0);
        x.sets(1, 0);
        own("a class changes nothing of it", x, 2, 0, 1);
        x.nights(1);
        own("one can it, one is broken", x, 1, 1, NONE);
    }

    private static void own(String why, CastGallery x, int many, int... things) {
        due("16 how many: " + why, x.own(-1), many);
        for (int c = 0; c < things.length; c++) {
            due("16 own(" + c + "): " + why, x.own(c), things[c]);
        }
    }

    private static void ownOfSeveral() {
        String things = "t0 1 0 0 0;t0 1 1 1 1;";
        own("the lowest thing first", Check.told(things + "c1 1 0;c1 1 0;"), 2, 0, 1);
        own("most, though not the lowest", Check.told(things + "c1 1 0;c1 1 2;"), 2, 1, 0);
        own("none last", Check.told(things + "c1 1 2;c1 1 2;c1 1 0;"), 2, 0, NONE, 1);
        own("none last, though in the middle", Check.told(things + "c1 1 0;c1 1 2;c1 1 0;"), 2, 0, NONE, 1);
    }

    /** Nothing of a larger hall that was asked about before may come into the answers. */
    private static void ownOfFewerReadAnew() {
        String[] fewer = {Scene.SMALL_HALL, "t0 1 0 0 0;c1 1 1;", "t0 1 6 0 0;c1 1 0;c1 1 0;c1 1 0;", "c1 1 0;", "t0 1 6 0 0;", ""};
        for (String text : fewer) {
            CastGallery x = Check.told(Scene.FULL_HALL);
            due("16 own(-1) of the full hall", x.own(-1), 4);
            x.best(0, 99, 0);
            Check.typeAll(x, text);
            x.hall();
            String anew = couldBe(x);
            String fresh = couldBe(text.isEmpty() ? new CastGallery() : Check.told(text));
            CHECK.holds("16 own() of '" + text + "' read anew: " + anew + " as of a new object: " + fresh, anew.equals(fresh));
        }
    }

    private static String couldBe(CastGallery x) {
        StringBuilder all = new StringBuilder();
        for (int c = -1; c < 6; c++) {
            all.append(x.own(c)).append(' ').append(x.best(c, 99, 0)).append(' ').append(x.best(c, 99, 1)).append(' ')
                .append(x.near(0, c)).append(' ').append(x.odds(3, c + 1, 0)).append(' ');
            for (int t = 0; t < 8; t++) {
                all.append(x.plan(c, t, -1)).append(' ').append(x.plan(c, t, -2)).append(' ');
            }
        }
        return all.append(x.now(4)).append(' ').append(x.ask()).append(' ').append(x.who()).toString();
    }

    private static void badNear() {
        for (int c : Scene.beyond(0, 5)) {
            rich().leaves("17 near(" + c + ", 0)", x -> x.near(c, 0), BAD);
            rich().leaves("17 near(0, " + c + ")", x -> x.near(0, c), BAD);
            rich().leaves("17 near(" + c + ", " + c + ")", x -> x.near(c, c), BAD);
        }
        for (int c : Scene.beyond(0, 1)) {
            told(Scene.SMALL_HALL).leaves("17 near(" + c + ", 0)", x -> x.near(c, 0), BAD);
            told(Scene.SMALL_HALL).leaves("17 near(0, " + c + ")", x -> x.near(0, c), BAD);
        }
        for (int c = 0; c < 6; c++) {
            int alike = c;
            rich().leaves("17 near(" + c + ", " + c + "): alike", x -> x.near(alike, alike), BAD);
        }
        rich().leaves("17 near(0, 5)", x -> x.near(0, 5), 2);
        rich().leaves("17 near(5, 0)", x -> x.near(5, 0), 2);
    }

    private static void nearFrom0To6() {
        CastGallery x = Check.told("c1 1 0;c9 9 0;c1 1 63;c1 1 1;c1 1 32;");
        due("17 0 of two that lack the same", x.near(0, 1), 0);
        due("17 6", x.near(0, 2), 6);
        due("17 6, the other way", x.near(2, 0), 6);
        due("17 1 of the first part", x.near(0, 3), 1);
        due("17 1 of the last part", x.near(4, 0), 1);
        due("17 either way", x.near(3, 4), 2);
        due("17 5", x.near(2, 3), 5);
    }

    private static void badOdds() {
        for (int chance : Scene.beyond(0, 10)) {
            rich().leaves("18 odds(" + chance + ", 0, 0)", x -> x.odds(chance, 0, 0), BAD);
            rich().leaves("18 odds(" + chance + ", 6, 1)", x -> x.odds(chance, 6, 1), BAD);
        }
        for (int k : Scene.beyond(0, 6)) {
            rich().leaves("18 odds(0, " + k + ", 0)", x -> x.odds(0, k, 0), BAD);
            rich().leaves("18 odds(10, " + k + ", 1)", x -> x.odds(10, k, 1), BAD);
        }
        for (int what : Scene.beyond(0, 1)) {
            rich().leaves("18 odds(0, 0, " + what + ")", x -> x.odds(0, 0, what), BAD);
            rich().leaves("18 odds(10, 6, " + what + ")", x -> x.odds(10, 6, what), BAD);
        }
        rich().leaves("18 odds(10, 6, 1)", x -> x.odds(10, 6, 1), 1);
        told("").leaves("18 odds(11, 0, 0) of no casts", x -> x.odds(11, 0, 0), BAD);
        told("").leaves("18 odds(0, 7, 0) of no casts", x -> x.odds(0, 7, 0), BAD);
    }

    private static void odds(CastGallery x, int chance, int k, int upper, int lower) {
        due("18 odds(" + chance + ", " + k + ", 0)", x.odds(chance, k, 0), upper);
        due("18 odds(" + chance + ", " + k + ", 1)", x.odds(chance, k, 1), lower);
    }

    private static void oddsFrom0To10() {
        CastGallery six = Check.told("c1 1 0;".repeat(6));
        for (int k = 0; k <= 6; k++) {
            odds(six, 0, k, 1, 1);
            odds(six, 10, k, k == 6 ? 1 : 0, 1);
        }
        odds(six, 1, 0, 531441, 1000000);
        odds(six, 9, 0, 1, 1000000);
        odds(six, 1, 5, 999999, 1000000);
        odds(six, 9, 5, 468559, 1000000);
        odds(six, 9, 6, 1, 1);
        CastGallery one = Check.told("c1 1 0;");
        for (int x = 1; x <= 9; x++) {
            odds(one, x, 1, 1, 1);
            odds(one, x, 6, 1, 1);
        }
        odds(one, 1, 0, 9, 10);
        odds(one, 9, 0, 1, 10);
        odds(one, 10, 0, 0, 1);
    }

    private static void oddsOfNoCasts() {
        for (int k = 0; k <= 6; k++) {
            odds(new CastGallery(), 0, k, 1, 1);
            odds(new CastGallery(), 10, k, 1, 1);
        }
        CastGallery x = Check.told("t9 9 6 0 0;c8 1 0;c9 1 0;");
        odds(x, 5, 0, 1, 4);
        x.sets(0, 0);
        x.sets(1, 0);
        x.nights(1);
        odds(x, 5, 0, 1, 2);
        x.nights(1);
        odds(x, 5, 0, 1, 1);
        x.mends(0);
        odds(x, 5, 0, 1, 2);
    }

    private static void oddsInLeastTerms() {
        CastGallery x = Check.told("c1 1 0;c1 1 0;");
        odds(x, 5, 1, 3, 4);
        odds(x, 2, 0, 16, 25);
        odds(x, 4, 1, 21, 25);
        odds(x, 3, 1, 91, 100);
        odds(x, 10, 1, 0, 1);
        odds(Check.told("c1 1 0;".repeat(6)), 5, 2, 11, 32);
        odds(Check.told("c1 1 0;".repeat(6)), 8, 0, 1, 15625);
    }

    private static void nothingIsChanged() {
        Scene scene = rich();
        for (int c = 0; c < 6; c++) {
            int of = c;
            scene.keeps("14 plan() of " + c, x -> x.plan(of, 7, 0));
            scene.keeps("15 best() of " + c, x -> x.best(of, 99, 0));
            scene.keeps("16 own() of " + c, x -> x.own(of));
            scene.keeps("17 near() of " + c, x -> x.near(of, 5 - of));
            scene.keeps("18 odds() by " + c, x -> x.odds(of, of, 0));
        }
    }
}
