/** Boundary cases of which it was (Terms, part 3, promises 19 to 22): each sentence's last taken and first refused. */
public final class WhichBoundsTest extends Bounds {
    public static void main(String[] args) {
        badHears();
        sixAreHeard();
        badAheadOfFull();
        oneHeardTwice();
        forgetOfNoneAndOfSix();
        whoOfNoneAndOfAll();
        whoByWhatItCanNow();
        askOfFewerThanTwo();
        askWhereNonePartsThem();
        askOfSeveral();
        askTheLastThing();
        nothingIsChanged();
        CHECK.end();
    }

    /** Casts 0 .. 5; each row tells what a cast can: c0 none, c1 {0}, c2 {0, 1}, c3 {2}, c4 {0, 1, 2}, c5 {3}. */
    private static Scene learned() {
        String text = "t0 1 6 0 0;t0 1 6 1 1;t0 1 6 2 2;t0 1 6 3 3;" + "c1 1 0;".repeat(6);
        int[][] lessons = {{1, 0}, {2, 0}, {2, 1}, {3, 2}, {4, 0}, {4, 1}, {4, 2}, {5, 3}};
        Scene scene = told(text);
        for (int[] lesson : lessons) {
            scene.then(x -> x.sets(lesson[0], lesson[1])).then(x -> x.nights(1));
        }
        return scene;
    }

    private static Scene heard(Scene scene, int... things) {
        for (int t : things) {
            scene.then(x -> x.hears(Math.abs(t) - 1, t > 0 ? 1 : 0));
        }
        return scene;
    }

    private static void badHears() {
        for (int t : Scene.beyond(0, 3)) {
            learned().leaves("19 hears(" + t + ", 0)", x -> x.hears(t, 0), BAD);
            learned().leaves("19 hears(" + t + ", 1)", x -> x.hears(t, 1), BAD);
        }
        for (int can : Scene.beyond(0, 1)) {
            learned().leaves("19 hears(0, " + can + ")", x -> x.hears(0, can), BAD);
            learned().leaves("19 hears(3, " + can + ")", x -> x.hears(3, can), BAD);
        }
        learned().changes("19 hears(0, 0)", x -> x.hears(0, 0), 1);
        learned().changes("19 hears(3, 1)", x -> x.hears(3, 1), 1);
        told(Scene.FULL_HALL).changes("19 hears(7, 1), the last thing", x -> x.hears(7, 1), 1);
        told(Scene.FULL_HALL).leaves("19 hears(8, 1)", x -> x.hears(8, 1), BAD);
        told("c1 1 0;").leaves("19 hears(0, 1) of no things", x -> x.hears(0, 1), BAD);
        told("t0 1 6 0 0;").changes("19 hears(0, 1) of no casts", x -> x.hears(0, 1), 1);
    }

    private static void sixAreHeard() {
        for (int many = 0; many < 6; many++) {
            Scene scene = learned();
            for (int i = 0; i < many; i++) {
                heard(scene, 1);
            }
            scene.changes("19 hears(1, 1) behind " + many, x -> x.hears(1, 1), many + 1);
        }
        Scene full = heard(learned(), 1, 1, 1, 1, 1, 1);
        due("19 six", full.made().count(2), 6);
        full.leaves("19 a seventh", x -> x.hears(1, 1), FULL);
        full.leaves("19 a seventh that was heard", x -> x.hears(0, 1), FULL);
        full.leaves("19 a seventh that can't be", x -> x.hears(0, 0), FULL);
        rich().leaves("19 a seventh", x -> x.hears(5, 1), FULL);
        // The sixth still counts.
        heard(learned(), 1, 1, 1, 1, 1, 3).leaves("19 who() by six", CastGallery::who, 16);
    }

    private static void badAheadOfFull() {
        Scene full = heard(learned(), 1, 1, 1, 1, 1, 1);
        for (int t : Scene.beyond(0, 3)) {
            full.leaves("19 hears(" + t + ", 1) when full", x -> x.hears(t, 1), BAD);
        }
        for (int can : Scene.beyond(0, 1)) {
            full.leaves("19 hears(0, " + can + ") when full", x -> x.hears(0, can), BAD);
        }
    }

    private static void oneHeardTwice() {
        heard(learned(), 1).changes("19 hears(0, 1) twice", x -> x.hears(0, 1), 2);
        heard(learned(), 1).changes("19 can and can't", x -> x.hears(0, 0), 2);
        heard(learned(), 1, -1).leaves("21 who() of one that can and can't", CastGallery::who, 0);
    }

    private static void forgetOfNoneAndOfSix() {
        learned().leaves("20 forget() of none", CastGallery::forget, 0);
        heard(learned(), 1).changes("20 forget() of one", CastGallery::forget, 1);
        Scene full = heard(learned(), 1, 1, 1, 1, 1, 2);
        full.changes("20 forget() of six", CastGallery::forget, 6);
        full.then(CastGallery::forget);
        full.leaves("20 forget() again", CastGallery::forget, 0);
        full.leaves("20 who() then", CastGallery::who, 63);
        full.changes("20 hears() then", x -> x.hears(3, 1), 1);
        full.then(x -> x.hears(3, 1)).leaves("20 by the new alone", CastGallery::who, 32);
        due("20 nothing may be undone by it", full.made().count(3), learned().made().count(3));
    }

    private static void whoOfNoneAndOfAll() {
        told("").leaves("21 who() of no casts", CastGallery::who, 0);
        told("c1 1 0;").leaves("21 who() of one", CastGallery::who, 1);
        learned().leaves("21 nothing heard: all six", CastGallery::who, 63);
        heard(learned(), 4).leaves("21 can 3: the last cast", CastGallery::who, 32);
        heard(learned(), -4).leaves("21 can't 3", CastGallery::who, 31);
        heard(learned(), -1, -2, -3, -4).leaves("21 can't anything: the first cast", CastGallery::who, 1);
        heard(learned(), 1, 2, 3, 4).leaves("21 can all", CastGallery::who, 0);
    }

    private static void whoByWhatItCanNow() {
        Scene scene = heard(learned(), 1);
        scene.leaves("21 can 0", CastGallery::who, 22);
        scene.then(x -> x.sets(0, 0)).leaves("21 in class", CastGallery::who, 22);
        scene.then(x -> x.nights(1)).leaves("21 learnt", CastGallery::who, 23);
        scene.then(CastGallery::undo).leaves("21 undone", CastGallery::who, 22);
    }

    private static void askOfFewerThanTwo() {
        told("").leaves("22 ask() of no casts, no things", CastGallery::ask, NONE);
        told("t0 1 6 0 0;").leaves("22 ask() of no casts", CastGallery::ask, NONE);
        told("c1 1 0;c1 1 0;").leaves("22 ask() of no things", CastGallery::ask, NONE);
        heard(learned(), 1, -1).leaves("22 ask() of none left", CastGallery::ask, NONE);
        heard(learned(), 4).leaves("22 ask() of one left", CastGallery::ask, NONE);
        heard(learned(), 2).leaves("22 ask() of two left", CastGallery::ask, 2);
        told("t0 1 6 0 0;c1 1 0;").then(x -> x.sets(0, 0)).then(x -> x.nights(1))
            .leaves("22 ask() of one that can it", CastGallery::ask, NONE);
    }

    private static void askWhereNonePartsThem() {
        Scene alike = told("t0 1 6 0 0;t0 1 6 1 1;c1 1 0;c1 1 0;");
        alike.leaves("22 none can anything", CastGallery::ask, NONE);
        alike.then(x -> x.sets(0, 1)).then(x -> x.sets(1, 1)).then(x -> x.nights(1));
        alike.leaves("22 both can the same", CastGallery::ask, NONE);
        alike.then(x -> x.sets(1, 0)).then(x -> x.nights(1)).leaves("22 one can more", CastGallery::ask, 0);
    }

    private static void askOfSeveral() {
        // Of six: 0 parts 3 to 3; 1 2 to 4; 2 2 to 4; 3 1 to 5.
        learned().leaves("22 3 to 3", CastGallery::ask, 0);
        // Of 1, 2, 4: 0 parts none; 1 2 to 1; 2 1 to 2.
        heard(learned(), 1).leaves("22 of several the lowest", CastGallery::ask, 1);
        // Of 0, 3, 5: 2 and 3 part 1 to 2.
        heard(learned(), -1).leaves("22 a lower one that parts none", CastGallery::ask, 2);
        Scene better = told("t0 1 6 0 0;t0 1 6 1 1;c1 1 0;c1 1 0;c1 1 0;c1 1 0;");
        better.then(x -> x.sets(0, 0)).then(x -> x.nights(1)).leaves("22 1 to 3", CastGallery::ask, 0);
        better.then(x -> x.sets(1, 1)).then(x -> x.nights(1)).leaves("22 1 to 3, twice", CastGallery::ask, 0);
        better.then(x -> x.sets(2, 1)).then(x -> x.nights(1)).leaves("22 2 to 2 is smaller", CastGallery::ask, 1);
        better.then(x -> x.sets(3, 1)).then(x -> x.nights(1)).leaves("22 3 to 1 is as 1 to 3", CastGallery::ask, 0);
    }

    private static void askTheLastThing() {
        Scene scene = told("t0 1 6 0 0;".repeat(7) + "t0 1 6 7 7;c1 1 0;c1 1 0;");
        scene.then(x -> x.sets(1, 7)).then(x -> x.nights(1)).leaves("22 ask(): thing 7", CastGallery::ask, 7);
    }

    private static void nothingIsChanged() {
        rich().keeps("21 who()", CastGallery::who);
        rich().keeps("22 ask()", CastGallery::ask);
        CastGallery x = learned().made();
        x.hears(0, 1);
        due("19 hears() can't be undone", x.count(3), 10);
        x.undo();
        due("19 it stays behind undo()", x.count(2), 1);
    }
}
