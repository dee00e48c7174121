import java.util.function.Consumer;

/** Boundary cases of what is done (Terms, part 2, promises 8 to 13): each sentence's last taken and first refused. */
public final class DoneBoundsTest extends Bounds {
    public static void main(String[] args) {
        badSets();
        setsOfOneThatIsSo();
        setsOfABrokenOne();
        setsOfWhatItCan();
        setsWithoutWhatItNeeds();
        setsWithoutThePart();
        setsWithoutOtherCasts();
        badNights();
        lastNight();
        cracksAsManyAsLime();
        farAsMuchAsHard();
        brokenAheadOfLearnt();
        nightsBehindTheEndOfAClass();
        nightsOfNoneAndOfAll();
        mendsOfNone();
        badMends();
        badJoins();
        joinsOfTheFirstAndTheLastPart();
        joinsOfWhatIsNotThere();
        joinsAndClasses();
        undoOfNone();
        tenAreKnown();
        undoOfEachKind();
        refusedOnesAreNotUndone();
        undoAcrossTheRing();
        badNow();
        nowOfNoneAndOfAll();
        treeOfNoneOneAndTwo();
        the512thCall();
        CHECK.end();
    }

    private static void badSets() {
        setsBeyond(rich(), 6, 8);
        setsBeyond(told(Scene.SMALL_HALL), 2, 3);
        rich().changes("8 sets(5, 6)", x -> x.sets(5, 6), NONE);
        // Cast 4 is broken and cast 0 can thing 0: BAD comes ahead of STATE.
        rich().leaves("8 sets(4, 8): BAD ahead of STATE", x -> x.sets(4, 8), BAD);
        rich().leaves("8 sets(4, -2): BAD ahead of STATE", x -> x.sets(4, -2), BAD);
        rich().leaves("8 sets(6, -1): BAD ahead of STATE", x -> x.sets(6, -1), BAD);
        CastGallery x = Check.told("t0 1 6 0 0;".repeat(7) + "t0 1 6 7 7;" + "c1 1 0;".repeat(6));
        due("8 sets(5, 7), the last of all", x.sets(5, 7), NONE);
        due("8 its class", x.cast(5, 7), 7);
    }

    private static void setsBeyond(Scene scene, int casts, int things) {
        for (int c : Scene.beyond(0, casts - 1)) {
            for (int t = -1; t <= things; t++) {
                int to = t;
                scene.leaves("8 sets(" + c + ", " + t + ")", x -> x.sets(c, to), BAD);
            }
        }
        for (int t : Scene.beyond(-1, things - 1)) {
            scene.leaves("8 sets(0, " + t + ")", x -> x.sets(0, t), BAD);
            scene.leaves("8 sets(" + (casts - 1) + ", " + t + ")", x -> x.sets(casts - 1, t), BAD);
        }
    }

    private static void setsOfOneThatIsSo() {
        rich().leaves("8 sets(2, 2): it is so", x -> x.sets(2, 2), STATE);
        rich().changes("8 sets(2, 4): another", x -> x.sets(2, 4), 2);
        rich().changes("8 sets(2, -1): to none", x -> x.sets(2, -1), 2);
        rich().leaves("8 sets(0, -1): none is so", x -> x.sets(0, -1), STATE);
        rich().leaves("8 sets(4, -1): none is so, of a broken one", x -> x.sets(4, -1), STATE);
        Scene thingZero = told("t0 9 6 0 0;c1 1 0;").then(x -> x.sets(0, 0));
        thingZero.leaves("8 sets(0, 0): it is so", x -> x.sets(0, 0), STATE);
        thingZero.changes("8 sets(0, -1): from thing 0", x -> x.sets(0, -1), 0);
    }

    private static void setsOfABrokenOne() {
        String text = "t9 9 6 0 0;c8 1 0;";
        Scene broken = told(text).then(x -> study(x, 0, 0, 1));
        broken.leaves("8 sets(0, 0) of a broken one", x -> x.sets(0, 0), STATE);
        told(text).then(x -> study(x, 0, 0, 1)).then(x -> x.mends(0))
            .changes("8 sets(0, 0) of a mended one", x -> x.sets(0, 0), NONE);
        told("t9 9 6 0 0;c9 1 0;").then(x -> study(x, 0, 0, 1)).then(x -> x.sets(0, -1))
            .changes("8 sets(0, 0) of one just not broken", x -> x.sets(0, 0), NONE);
    }

    private static void setsOfWhatItCan() {
        String text = "t0 2 6 0 0;c9 1 0;";
        told(text).then(x -> study(x, 0, 0, 2)).leaves("8 sets(0, 0): it can it", x -> x.sets(0, 0), STATE);
        told(text).then(x -> study(x, 0, 0, 1)).then(x -> x.sets(0, -1))
            .changes("8 sets(0, 0): one night short", x -> x.sets(0, 0), NONE);
    }

    private static void setsWithoutWhatItNeeds() {
        String text = "t0 1 6 0 0;t0 1 6 1 1;t0 1 6 0 1;c9 1 0;";
        told(text).leaves("8 sets(0, 2): neither", x -> x.sets(0, 2), STATE);
        told(text).then(x -> study(x, 0, 0, 1)).leaves("8 sets(0, 2): the first alone", x -> x.sets(0, 2), STATE);
        told(text).then(x -> study(x, 0, 1, 1)).leaves("8 sets(0, 2): the second alone", x -> x.sets(0, 2), STATE);
        told(text).then(x -> study(x, 0, 0, 1)).then(x -> study(x, 0, 1, 1))
            .changes("8 sets(0, 2): both", x -> x.sets(0, 2), NONE);
    }

    private static void setsWithoutThePart() {
        for (int part = 0; part <= 5; part++) {
            String thing = "t0 1 " + part + " 0 0;";
            told(thing + "c1 1 " + (1 << part) + ";")
                .leaves("8 sets(0, 0): it lacks part " + part, x -> x.sets(0, 0), STATE);
            told(thing + "c1 1 " + (63 - (1 << part)) + ";")
                .changes("8 sets(0, 0): it lacks all but " + part, x -> x.sets(0, 0), NONE);
        }
        told("t0 1 6 0 0;c1 1 63;").changes("8 sets(0, 0): no part", x -> x.sets(0, 0), NONE);
    }

    private static void setsWithoutOtherCasts() {
        told("t0 9 6 0 0;c1 1 0;c1 1 0;").then(x -> x.sets(0, 0))
            .changes("8 sets(1, 0): two in one class", x -> x.sets(1, 0), NONE);
    }

    private static void badNights() {
        for (int n : Scene.beyond(1, 9)) {
            rich().leaves("9 nights(" + n + ")", x -> x.nights(n), BAD);
        }
        rich().changes("9 nights(1)", x -> x.nights(1), 1);
        rich().changes("9 nights(9)", x -> x.nights(9), 1);
        for (int n = 1; n <= 9; n++) {
            CastGallery x = new CastGallery();
            x.nights(n);
            due("9 the night behind nights(" + n + ")", x.now(0), n);
            due("9 one to be undone", x.count(3), 1);
        }
    }

    /** The rich scene's night is 9. */
    private static Scene atNight(int night) {
        Scene scene = rich();
        int left = night - 9;
        return scene.then(x -> {
            for (int i = 0; i < left / 9; i++) {
                x.nights(9);
            }
            if (left % 9 > 0) {
                x.nights(left % 9);
            }
        });
    }

    private static void lastNight() {
        due("9 at night 990", atNight(990).made().now(0), 990);
        for (int n = 1; n <= 9; n++) {
            int by = n;
            atNight(999 - n).changes("9 nights(" + n + ") to 999", x -> x.nights(by), 1);
            atNight(1000 - n).leaves("9 nights(" + n + ") to 1000", x -> x.nights(by), STATE);
            atNight(999).leaves("9 nights(" + n + ") at 999", x -> x.nights(by), STATE);
        }
        for (int n : Scene.beyond(1, 9)) {
            atNight(999).leaves("9 nights(" + n + ") at 999: BAD ahead of STATE", x -> x.nights(n), BAD);
        }
        CastGallery x = atNight(999).made();
        due("9 night 999", x.now(0), 999);
        due("9 sets() at 999", x.sets(5, 6), NONE);
        x.undo();
        due("9 undo() at 999", x.undo(), 8);
        due("9 the night ahead of it", x.now(0), 990);
        due("9 nights(9) once more", x.nights(9), 1);
        due("9 night 999 again", x.now(0), 999);
    }

    private static void cracksAsManyAsLime() {
        CastGallery x = Check.told("t9 9 6 0 0;c9 1 0;c8 1 0;c18 1 0;c17 1 0;");
        for (int c = 0; c < 4; c++) {
            x.sets(c, 0);
        }
        due("9 one night: 9 in 9, 9 in 8", x.nights(1), 1);
        due("9 the one of 8", x.now(1), 2);
        due("9 the one of 9 stays in class", x.now(2), 13);
        due("9 two nights: 18 in 18, 18 in 17", x.nights(1), 3);
        due("9 all but the one of 18", x.now(1), 11);
        due("9 cracks of the one that broke in the first", x.cast(1, 3), 9);
        due("9 cracks of the one of 18", x.cast(2, 3), 18);
        CastGallery y = Check.told("t9 30 6 0 0;t0 30 6 1 1;c99 1 0;c1 1 0;");
        y.sets(0, 0);
        y.sets(1, 1);
        y.nights(9);
        due("9 99 cracks in 99", y.nights(2), 0);
        due("9 cracks", y.cast(0, 3), 99);
        due("9 108 cracks in 99", y.nights(1), 1);
        due("9 cracks", y.cast(0, 3), 108);
        due("9 no load, no cracks", y.cast(1, 3), 0);
    }

    private static void farAsMuchAsHard() {
        CastGallery x = Check.told("t0 6 6 0 0;c1 3 0;c1 2 0;c1 5 0;c1 4 0;c1 6 0;");
        for (int c = 0; c < 5; c++) {
            x.sets(c, 0);
        }
        x.nights(1);
        due("9 6 of 6 is enough, 5 is not", x.thing(0, 4), 16);
        due("9 the others stay", x.now(2), 15);
        x.nights(1);
        due("9 6, 4, 10, 8 of 6", x.thing(0, 4), 29);
        due("9 10 far", x.far(2, 0), 10);
        due("9 one stays", x.now(2), 2);
        x.nights(1);
        due("9 the last", x.thing(0, 4), 31);
        CastGallery y = Check.told("t0 30 6 0 0;c1 1 0;");
        study(y, 0, 0, 9);
        y.nights(9);
        y.nights(9);
        y.nights(2);
        due("9 29 of 30", y.cast(0, 5) * 100 + y.far(0, 0), 29);
        y.nights(1);
        due("9 30 of 30", y.cast(0, 5) * 100 + y.far(0, 0), 130);
    }

    private static void brokenAheadOfLearnt() {
        CastGallery x = Check.told("t9 1 6 0 0;c8 1 0;c9 1 0;");
        x.sets(0, 0);
        x.sets(1, 0);
        due("9 both would come in one night", x.nights(1), 1);
        due("9 broken: it can't it", x.cast(0, 5) * 10 + x.cast(0, 4), 1);
        due("9 not broken: it can it", x.cast(1, 5) * 10 + x.cast(1, 4), 10);
        due("9 as far as the other", x.far(0, 0) * 10 + x.far(1, 0), 11);
        due("9 both are in no class", x.now(2), 0);
        x.mends(0);
        due("9 not in its class when mended", x.cast(0, 7), NONE);
    }

    private static void nightsBehindTheEndOfAClass() {
        CastGallery x = Check.told("t3 4 6 0 0;c99 2 0;c5 1 0;");
        x.sets(0, 0);
        x.sets(1, 0);
        due("9 nights(9)", x.nights(9), 1);
        due("9 learnt in two: no farther", x.far(0, 0), 4);
        due("9 no more cracks", x.cast(0, 3), 6);
        due("9 broken in two: no farther", x.far(1, 0), 2);
        due("9 no more cracks", x.cast(1, 3), 6);
        due("9 the night goes on", x.now(0), 9);
    }

    private static void nightsOfNoneAndOfAll() {
        CastGallery x = Check.told("t9 9 6 0 0;" + "c8 1 0;".repeat(6));
        due("9 none is in a class", x.nights(9), 0);
        for (int c = 0; c < 6; c++) {
            x.sets(c, 0);
        }
        due("9 all are in a class", x.now(2), 63);
        due("9 all are broken", x.nights(1), 6);
        due("9 which", x.now(1), 63);
        due("9 still", x.nights(1), 6);
    }

    private static void mendsOfNone() {
        Scene none = told("t1 9 6 0 0;t0 9 6 1 1;c9 1 0;").then(x -> study(x, 0, 1, 1));
        none.leaves("10 mends(0): no cracks", x -> x.mends(0), STATE);
        none.then(x -> x.sets(0, 0)).then(x -> x.nights(1)).changes("10 mends(0): one crack", x -> x.mends(0), 1);
        none.then(x -> x.mends(0)).leaves("10 mends(0) again", x -> x.mends(0), STATE);
        due("10 it stays in its class", none.made().cast(0, 7), 0);
        rich().changes("10 mends(4): broken", x -> x.mends(4), 9);
        CastGallery y = rich().made();
        y.mends(4);
        due("10 mended: cracks, broken", y.cast(4, 3) + y.cast(4, 4) + y.now(1), 0);
        due("10 no other is", y.cast(0, 3), 8);
    }

    private static void badMends() {
        for (int c : Scene.beyond(0, 5)) {
            rich().leaves("10 mends(" + c + ")", x -> x.mends(c), BAD);
        }
        for (int c : Scene.beyond(0, 1)) {
            told(Scene.SMALL_HALL).leaves("10 mends(" + c + ")", x -> x.mends(c), BAD);
        }
        told("t1 9 6 0 0;" + "c9 1 0;".repeat(6)).then(x -> study(x, 5, 0, 1))
            .changes("10 mends(5), the last", x -> x.mends(5), 1);
    }

    private static void badJoins() {
        for (int c : Scene.beyond(0, 5)) {
            rich().leaves("11 joins(" + c + ", 2, 1)", x -> x.joins(c, 2, 1), BAD);
            rich().leaves("11 joins(0, " + c + ", 1)", x -> x.joins(0, c, 1), BAD);
        }
        for (int c : Scene.beyond(0, 1)) {
            told(Scene.SMALL_HALL).leaves("11 joins(" + c + ", 0, 0)", x -> x.joins(c, 0, 0), BAD);
            told(Scene.SMALL_HALL).leaves("11 joins(0, " + c + ", 1)", x -> x.joins(0, c, 1), BAD);
        }
        for (int part : Scene.beyond(0, 5)) {
            rich().leaves("11 joins(0, 2, " + part + ")", x -> x.joins(0, 2, part), BAD);
        }
        // Bits wrap around: 32 + 1 would be part 1.
        rich().leaves("11 joins(0, 2, 33)", x -> x.joins(0, 2, 33), BAD);
        for (int part = 0; part <= 5; part++) {
            int alike = part;
            rich().leaves("11 joins(0, 0, " + part + "): BAD ahead of STATE", x -> x.joins(0, 0, alike), BAD);
            rich().leaves("11 joins(2, 2, " + part + "): BAD ahead of STATE", x -> x.joins(2, 2, alike), BAD);
        }
        rich().leaves("11 joins(2, 0, 6): BAD ahead of STATE", x -> x.joins(2, 0, 6), BAD);
    }

    private static void joinsOfTheFirstAndTheLastPart() {
        for (int part = 0; part <= 5; part++) {
            CastGallery x = Check.told("c1 1 0;c1 1 63;");
            due("11 joins(0, 1, " + part + ")", x.joins(0, 1, part), 63 - (1 << part));
            due("11 the first one lacks it", x.cast(0, 2), 1 << part);
            due("11 back again", x.joins(1, 0, part), 0);
            due("11 as at first", x.cast(1, 2), 63);
        }
        told("c1 1 0;".repeat(5) + "c1 1 1;").changes("11 joins(0, 5, 0), the last cast", x -> x.joins(0, 5, 0), 0);
        told("c1 1 1;" + "c1 1 0;".repeat(5)).changes("11 joins(5, 0, 0), the last cast", x -> x.joins(5, 0, 0), 0);
        CastGallery all = Check.told("c1 1 0;c1 1 63;");
        for (int part = 0; part <= 5; part++) {
            all.joins(0, 1, part);
        }
        due("11 all six", all.cast(0, 2) * 100 + all.cast(1, 2), 6300);
    }

    private static void joinsOfWhatIsNotThere() {
        for (int part = 0; part <= 5; part++) {
            int joined = part;
            int bit = 1 << part;
            String call = "11 joins(0, 1, " + part + ")";
            told("c1 1 " + bit + ";c1 1 " + bit + ";")
                .leaves(call + ": both lack it", x -> x.joins(0, 1, joined), STATE);
            told("c1 1 0;c1 1 0;").leaves(call + ": none lacks it", x -> x.joins(0, 1, joined), STATE);
            told("c1 1 " + bit + ";c1 1 0;").leaves(call + ": the first lacks it", x -> x.joins(0, 1, joined), STATE);
            told("c1 1 " + (63 - bit) + ";c1 1 " + bit + ";").changes(call, x -> x.joins(0, 1, joined), 0);
        }
        told("c1 1 0;c1 1 1;").then(x -> x.joins(0, 1, 0)).leaves("11 joins(0, 1, 0) again", x -> x.joins(0, 1, 0), STATE);
    }

    private static void joinsAndClasses() {
        CastGallery x = Check.told("t0 9 0 0 0;t0 9 1 1 1;t0 9 6 2 2;c1 1 0;c1 1 63;c1 1 0;c1 1 0;c1 1 0;");
        x.sets(0, 0);
        x.sets(1, 2);
        x.sets(2, 0);
        x.sets(3, 1);
        x.sets(4, 2);
        due("11 joins(0, 1, 0)", x.joins(0, 1, 0), 62);
        due("11 the first one is in no class", x.cast(0, 7), NONE);
        due("11 the others stay", x.now(2), 30);
        due("11 joins(3, 1, 2)", x.joins(3, 1, 2), 58);
        due("11 a class of another part stays", x.cast(3, 7), 1);
        due("11 joins(3, 1, 1)", x.joins(3, 1, 1), 56);
        due("11 now it is in none", x.cast(3, 7), NONE);
        for (int part = 3; part <= 5; part++) {
            x.joins(4, 1, part);
        }
        due("11 a class of no part stays", x.cast(4, 7), 2);
        due("11 the second one's class stays", x.cast(1, 7), 2);
        for (int i = 9; i >= 6; i--) {
            due("11 undo()", x.undo(), i);
        }
        due("11 undo() brings the class back", x.cast(3, 7), 1);
        CastGallery y = Check.told("t0 1 0 0 0;t0 9 6 0 0;c1 1 0;c1 1 1;");
        study(y, 0, 0, 1);
        y.joins(0, 1, 0);
        due("11 what it can it can", y.cast(0, 5), 1);
        due("11 and may learn what needs it", y.cast(0, 6), 2);
    }

    private static void undoOfNone() {
        told("").leaves("12 undo() of a new object", CastGallery::undo, STATE);
        told(Scene.FULL_HALL).leaves("12 undo() behind hall()", CastGallery::undo, STATE);
        told("").then(x -> x.nights(1)).changes("12 undo() of one", CastGallery::undo, 0);
        told("").then(x -> x.nights(1)).then(CastGallery::undo).leaves("12 undo() of none left", CastGallery::undo, STATE);
        rich().changes("12 undo() of ten", CastGallery::undo, 9);
    }

    private static void tenAreKnown() {
        for (int many = 9; many <= 12; many++) {
            CastGallery x = new CastGallery();
            for (int i = 1; i <= many; i++) {
                x.nights(1);
                due("12 known behind " + i, x.count(3), Math.min(i, 10));
            }
            int known = Math.min(many, 10);
            for (int i = 1; i <= known; i++) {
                due("12 undo() " + i + " of " + many, x.undo(), known - i);
                due("12 the night", x.now(0), many - i);
            }
            due("12 undo() of one more", x.undo(), STATE);
            due("12 what is lost stays done", x.now(0), many - known);
        }
    }

    private static void undoOfEachKind() {
        undoes("sets()", x -> x.sets(0, 4));
        undoes("nights()", x -> x.nights(9));
        undoes("mends()", x -> x.mends(4));
        undoes("joins()", x -> x.joins(3, 2, 0));
    }

    /** The oldest of the ten is lost by it; but for that all is as ahead of it. */
    private static void undoes(String what, Consumer<CastGallery> done) {
        String ahead = Scene.seen(rich().made());
        CastGallery x = rich().made();
        done.accept(x);
        due("12 undo() of " + what, x.undo(), 9);
        String due = ahead.replaceFirst("^((\\d+ ){6})10 ", "$19 ");
        CHECK.holds("12 all is as ahead of " + what, !due.equals(ahead) && Scene.seen(x).equals(due));
    }

    private static void refusedOnesAreNotUndone() {
        CastGallery x = rich().made();
        due("12 refused", x.sets(0, 0) + x.nights(10) + x.mends(2) + x.joins(0, 0, 0), STATE + BAD + STATE + BAD);
        due("12 ten are known", x.count(3), 10);
        due("12 undo() of the latest that was done", x.undo(), 9);
        due("12 the night ahead of it", x.now(0), 8);
    }

    private static void undoAcrossTheRing() {
        CastGallery x = new CastGallery();
        for (int i = 0; i < 15; i++) {
            x.nights(1);
        }
        for (int i = 0; i < 4; i++) {
            x.undo();
        }
        due("12 six are left", x.count(3), 6);
        for (int i = 0; i < 3; i++) {
            x.nights(2);
        }
        due("12 nine", x.count(3), 9);
        due("12 the night", x.now(0), 17);
        int[] nights = {15, 13, 11, 10, 9, 8, 7, 6, 5};
        for (int i = 0; i < 9; i++) {
            due("12 undo()", x.undo(), 8 - i);
            due("12 the night behind it", x.now(0), nights[i]);
        }
        due("12 none", x.undo(), STATE);
    }

    private static void badNow() {
        for (int what : Scene.beyond(0, 4)) {
            rich().leaves("13 now(" + what + ")", x -> x.now(what), BAD);
            told("").leaves("13 now(" + what + ")", x -> x.now(what), BAD);
        }
        int[] want = {9, 16, 4, 5, 9};
        for (int what = 0; what <= 4; what++) {
            int asked = what;
            rich().leaves("13 now(" + what + ")", x -> x.now(asked), want[what]);
        }
    }

    private static void nowOfNoneAndOfAll() {
        CastGallery x = Check.told("t0 1 6 0 0;".repeat(2) + "t0 1 6 2 2;".repeat(2) + "t0 1 6 4 4;".repeat(2)
            + "t0 1 6 6 6;".repeat(2) + "c1 1 0;".repeat(6));
        due("13 none can anything", x.now(3), 0);
        for (int t = 0; t < 8; t++) {
            due("13 none is in a class", x.now(2), 0);
            for (int c = 0; c < 6; c++) {
                x.sets(c, t);
            }
            due("13 all are in a class", x.now(2), 63);
            x.nights(1);
            due("13 learnt by all", x.now(3), 6 * (t + 1));
            due("13 who can it", x.thing(t, 4), 63);
        }
        due("13 all of it", x.cast(5, 5), 255);
        due("13 nothing is left", x.cast(5, 6), 0);
    }

    private static void treeOfNoneOneAndTwo() {
        due("13 tree of none", new CastGallery().now(4), 0);
        due("13 tree of no casts", Check.told("t0 1 6 0 0;").now(4), 0);
        due("13 tree of one", Check.told("c1 1 63;").now(4), 0);
        due("13 tree of two, as far as can be", Check.told("c1 1 0;c1 1 63;").now(4), 6);
        due("13 tree of two alike", Check.told("c1 1 63;c1 1 63;").now(4), 0);
        due("13 tree of six alike", Check.told("c1 1 21;".repeat(6)).now(4), 0);
        due("13 two alike, as far from the first as can be", Check.told("c1 1 0;c1 1 63;c1 1 63;").now(4), 6);
        due("13 over one between", Check.told("c1 1 0;c1 1 63;c1 1 7;").now(4), 6);
        due("13 three as far as can be", Check.told("c1 1 15;c1 1 51;c1 1 60;").now(4), 8);
        due("13 six of one part each", Check.told("c1 1 1;c1 1 2;c1 1 4;c1 1 8;c1 1 16;c1 1 32;").now(4), 10);
    }

    private static void the512thCall() {
        CastGallery x = new CastGallery();
        for (int i = 1; i <= 111; i++) {
            x.nights(9);
        }
        for (int i = 112; i <= 511; i++) {
            due("the night, call " + i, x.now(0), 999);
        }
        due("the 512th call", x.undo(), 9);
    }
}
