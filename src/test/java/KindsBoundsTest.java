/** Boundary cases of kinds and images (Terms, part 4, promises 23 to 27): each sentence's last taken and first refused. */
public final class KindsBoundsTest extends Bounds {
    public static void main(String[] args) {
        badMark();
        markOfEachKind();
        markBelowZero();
        markOfMost();
        badKeep();
        keepAgain();
        keepOfNoCasts();
        badBack();
        backOfNone();
        backOfEachImage();
        backWithWhatMayBeUndone();
        backKeepsWhatIsNotInIt();
        imagesAreGone();
        badCount();
        countOfNoneAndOfAll();
        traceOfEachKind();
        traceOfRefusedOnes();
        CHECK.end();
    }

    private static void badMark() {
        for (int kind : Scene.beyond(0, 5)) {
            rich().leaves("23 mark(" + kind + ", 0)", x -> x.mark(kind, 0), NO);
            rich().leaves("23 mark(" + kind + ", 6)", x -> x.mark(kind, 6), NO);
        }
        for (int kind = 0; kind <= 5; kind++) {
            int as = kind;
            for (int c : Scene.beyond(0, 5)) {
                rich().leaves("23 mark(" + kind + ", " + c + ")", x -> x.mark(as, c), NO);
            }
            for (int c : Scene.beyond(0, 1)) {
                told(Scene.SMALL_HALL).leaves("23 mark(" + kind + ", " + c + ")", x -> x.mark(as, c), NO);
            }
        }
    }

    private static void markOfEachKind() {
        // Cast 0: 8 cracks, can 2, lacks 1 part, night 9. Cast 5: no cracks, can 1, lacks 1 part.
        int[] first = {8, 10, 7, 20, 7, 17};
        int[] last = {0, 1, -1, 2, 4, 9};
        for (int kind = 0; kind <= 5; kind++) {
            int as = kind;
            rich().changes("23 mark(" + kind + ", 0)", x -> x.mark(as, 0), first[kind]);
            rich().changes("23 mark(" + kind + ", 5)", x -> x.mark(as, 5), last[kind]);
            due("23 of a broken one", rich().made().mark(kind, 4), new int[] {9, 9, 9, 18, 13, 18}[kind]);
        }
    }

    private static void markBelowZero() {
        CastGallery x = Check.told("c1 1 63;" + "c1 1 0;".repeat(4) + "c1 1 63;");
        due("23 the lowest", x.mark(2, 0), -6);
        due("23 the lowest of MUSE", x.mark(4, 0), -6);
        due("23 its number is one more each", x.mark(4, 5), -1);
        due("23 0 of no cracks", x.mark(0, 0) + x.mark(1, 0) + x.mark(3, 0) + x.mark(5, 0), 0);
    }

    private static void markOfMost() {
        CastGallery x = Check.told("t9 30 6 0 0;c99 1 0;");
        x.sets(0, 0);
        x.nights(9);
        x.nights(3);
        for (int i = 0; i < 109; i++) {
            x.nights(9);
        }
        x.nights(6);
        due("23 108 cracks", x.mark(0, 0), 108);
        due("23 108 cracks twice", x.mark(3, 0), 216);
        due("23 108 cracks in night 999", x.mark(5, 0), 1107);
    }

    private static void badKeep() {
        for (int image : Scene.beyond(0, 1)) {
            rich().leaves("24 keep(" + image + ")", x -> x.keep(image), BAD);
            told("").leaves("24 keep(" + image + ")", x -> x.keep(image), BAD);
        }
        rich().changes("24 keep(0)", x -> x.keep(0), 9);
        rich().changes("24 keep(1)", x -> x.keep(1), 9);
    }

    private static void keepAgain() {
        CastGallery x = rich().made();
        x.keep(0);
        x.keep(0);
        x.nights(9);
        due("24 the latest", x.back(0), 9);
        due("24 the other stays", x.back(1), 8);
        rich().then(y -> y.keep(0)).leaves("24 keep(0) of what it has", y -> y.keep(0), 9);
    }

    private static void keepOfNoCasts() {
        Scene none = told("");
        none.changes("24 keep(0)", x -> x.keep(0), 0);
        none.then(x -> x.keep(1)).then(x -> x.nights(3));
        none.changes("25 back(1)", x -> x.back(1), 0);
        none.leaves("25 back(0): none was kept", x -> x.back(0), STATE);
    }

    private static void badBack() {
        for (int image : Scene.beyond(0, 1)) {
            rich().leaves("25 back(" + image + ")", x -> x.back(image), BAD);
            // None was kept either: BAD comes ahead of STATE.
            told("").leaves("25 back(" + image + ") of a new object", x -> x.back(image), BAD);
        }
    }

    private static void backOfNone() {
        told(Scene.FULL_HALL).leaves("25 back(0)", x -> x.back(0), STATE);
        told(Scene.FULL_HALL).leaves("25 back(1)", x -> x.back(1), STATE);
        told(Scene.FULL_HALL).then(x -> x.keep(0)).leaves("25 back(1): 0 was kept", x -> x.back(1), STATE);
        told(Scene.FULL_HALL).then(x -> x.keep(1)).leaves("25 back(0): 1 was kept", x -> x.back(0), STATE);
        told(Scene.FULL_HALL).then(x -> x.keep(0)).leaves("25 back(0): nothing was done since", x -> x.back(0), 0);
    }

    private static void backOfEachImage() {
        rich().changes("25 back(0)", x -> x.back(0), 3);
        rich().changes("25 back(1)", x -> x.back(1), 8);
        rich().then(x -> x.back(0)).leaves("25 back(0) again", x -> x.back(0), 3);
        rich().then(x -> x.back(0)).changes("25 back(1) then", x -> x.back(1), 8);
        CastGallery x = rich().made();
        x.back(0);
        int[] want = {3, 16, 0, 1, 9};
        for (int what = 0; what <= 4; what++) {
            due("25 now(" + what + ") of image 0", x.now(what), want[what]);
        }
        due("25 how far", x.far(0, 0) * 100 + x.far(1, 2) * 10 + x.far(4, 4), 401);
        due("25 lacks", x.cast(0, 2) * 100 + x.cast(4, 2), 1);
        due("25 cracks", x.cast(0, 3) * 100 + x.cast(4, 3), 209);
        x.back(1);
        due("25 now(0) of image 1", x.now(0), 8);
        due("25 class of image 1", x.now(2), 0);
        due("25 joined in image 1", x.cast(0, 2) * 100 + x.cast(4, 2), 100);
    }

    private static void backWithWhatMayBeUndone() {
        CastGallery x = rich().made();
        x.back(0);
        due("25 four were known", x.count(3), 4);
        for (int i = 3; i >= 0; i--) {
            due("25 undo()", x.undo(), i);
        }
        due("25 undo() of none", x.undo(), STATE);
        due("25 night 0", x.now(0), 0);
        due("25 the image has it still", x.back(0) * 10 + x.count(3), 34);
        x.back(1);
        due("25 ten were known", x.count(3), 10);
        x.nights(1);
        due("25 ten at most", x.count(3), 10);
        due("25 back() can't be undone", x.back(0) * 10 + x.count(3), 34);
        for (int known = 0; known <= 12; known++) {
            CastGallery y = new CastGallery();
            for (int i = 0; i < known; i++) {
                y.nights(1);
            }
            y.keep(0);
            y.nights(9);
            y.undo();
            y.nights(5);
            y.back(0);
            due("25 known of " + known, y.count(3), Math.min(known, 10));
            for (int i = 0; i < Math.min(known, 10); i++) {
                y.undo();
            }
            due("25 all undone of " + known, y.now(0), Math.max(known - 10, 0));
        }
    }

    private static void backKeepsWhatIsNotInIt() {
        CastGallery x = rich().typed("abc").made();
        long trace = x.trace();
        x.back(0);
        due("25 HEARD", x.count(2), 6);
        due("25 THE TEXT", x.count(4), 3);
        due("25 THE TRACE", x.trace(), trace);
        x.forget();
        x.clear();
        x.mark(0, 0);
        x.back(1);
        due("25 HEARD is not in it", x.count(2), 0);
        due("25 THE TEXT is not in it", x.count(4), 0);
        due("25 THE TRACE is not in it", x.trace(), trace + 1);
    }

    private static void imagesAreGone() {
        Scene anew = rich().typed(Scene.SMALL_HALL).then(CastGallery::hall);
        anew.leaves("25 back(0) behind hall()", x -> x.back(0), STATE);
        anew.leaves("25 back(1) behind hall()", x -> x.back(1), STATE);
        anew.changes("24 keep(1) then", x -> x.keep(1), 0);
        rich().typed("x").then(CastGallery::hall).changes("25 back(0) behind a fault", x -> x.back(0), 3);
    }

    private static void badCount() {
        for (int what : Scene.beyond(0, 4)) {
            rich().leaves("26 count(" + what + ")", x -> x.count(what), BAD);
            told("").leaves("26 count(" + what + ")", x -> x.count(what), BAD);
        }
    }

    private static void countOfNoneAndOfAll() {
        Scene all = rich().typed(" ".repeat(150));
        int[] most = {8, 6, 6, 10, 150};
        for (int what = 0; what <= 4; what++) {
            int asked = what;
            all.leaves("26 count(" + what + ") of all", x -> x.count(asked), most[what]);
            told("").leaves("26 count(" + what + ") of none", x -> x.count(asked), 0);
        }
    }

    private static void traceOfEachKind() {
        int[] left = {1, 11, 101, 1011, 10101, 100001};
        for (int kind = 0; kind <= 5; kind++) {
            CastGallery x = Check.told("c1 1 0;");
            due("27 at first", x.trace(), 0);
            x.mark(kind, 0);
            due("27 behind mark(" + kind + ", 0)", x.trace(), left[kind]);
            x.mark(kind, 0);
            due("27 as often as it is asked", x.trace(), 2L * left[kind]);
        }
        CastGallery x = Check.told("c1 1 0;");
        for (int i = 0; i < 490; i++) {
            x.mark(5, 0);
        }
        due("27 much", x.trace(), 49000490);
    }

    private static void traceOfRefusedOnes() {
        CastGallery x = rich().made();
        due("27 of a THROWER and a MUSE", x.trace(), 11112);
        x.mark(6, 0);
        x.mark(-1, 0);
        x.mark(5, 6);
        x.mark(5, -1);
        due("27 refused ones leave none", x.trace(), 11112);
        rich().keeps("27 trace()", CastGallery::trace);
        x.undo();
        due("27 undo() leaves it", x.trace(), 11112);
        x.clear();
        x.hall();
        due("27 hall() leaves it", x.trace(), 11112);
    }
}
