import java.util.ArrayList;
import java.util.List;
import java.util.function.Consumer;
import java.util.function.ToLongFunction;

/**
 * A gallery in a chosen state, made anew as often as it is wanted: what a refused call left can so be held
 * against a gallery that never had that call, in all that can be seen, now and behind undo, back and hall.
 */
final class Scene {
    /** Eight things, six casts: no more may be told. */
    static final String FULL_HALL = "t1 4 1 0 0;t2 6 2 0 1;t0 3 6 2 2;t5 9 0 1 2;t9 9 6 4 4;t3 2 3 2 4;t0 1 4 6 6;t1 1 5 6 7;"
        + "c99 2 0;c20 3 6;c9 1 63;c40 9 8;c8 1 1;c30 5 32;";
    /** Three things, two casts: less than may be told, so that there is no such thing well ahead of eight. */
    static final String SMALL_HALL = "t1 2 0 0 0;t2 3 6 0 1;t9 30 1 2 2;c99 2 1;c10 1 2;";

    private static final int MOST_UNDONE = 10;

    private final Check check;
    private final String text;
    private final List<Consumer<CastGallery>> steps = new ArrayList<>();
    private List<String> untouched;

    private Scene(Check check, String text) {
        this.check = check;
        this.text = text;
    }

    /** As a text tells; an empty one: a new object. */
    static Scene of(Check check, String text) {
        return new Scene(check, text);
    }

    /** Much is done, all ten that may be are known to be undone, both images are kept, six are heard. */
    static Scene rich(Check check) {
        Scene scene = of(check, FULL_HALL);
        return scene.then(Scene::fill);
    }

    private static void fill(CastGallery x) {
        x.sets(0, 0);
        x.nights(2);
        x.sets(4, 4);
        x.nights(1);
        x.keep(0);
        x.sets(1, 2);
        x.nights(1);
        x.sets(3, 6);
        x.nights(1);
        x.sets(0, 1);
        x.nights(1);
        x.joins(0, 4, 0);
        x.sets(5, 0);
        x.nights(2);
        x.mends(5);
        x.keep(1);
        x.sets(2, 2);
        x.nights(1);
        x.hears(0, 1);
        x.hears(0, 1);
        x.hears(1, 0);
        x.hears(2, 0);
        x.hears(3, 0);
        x.hears(7, 0);
        x.mark(3, 0);
        x.mark(4, 5);
    }

    Scene then(Consumer<CastGallery> step) {
        steps.add(step);
        untouched = null;
        return this;
    }

    Scene typed(String more) {
        return then(x -> Check.typeAll(x, more));
    }

    CastGallery made() {
        CastGallery x = text.isEmpty() ? new CastGallery() : Check.told(text);
        for (Consumer<CastGallery> step : steps) {
            step.accept(x);
        }
        return x;
    }

    /** A call has its answer, and all stays as without it. */
    void leaves(String call, ToLongFunction<CastGallery> asked, long answer) {
        check.due(call, asked.applyAsLong(made()), answer);
        keeps(call, asked);
    }

    /** All stays as without a call, whatever it answers. */
    void keeps(String call, ToLongFunction<CastGallery> asked) {
        if (untouched == null) {
            untouched = everything(x -> 0);
        }
        List<String> touched = everything(asked);
        for (int i = 0; i < touched.size(); i++) {
            if (!touched.get(i).equals(untouched.get(i))) {
                check.holds(call + " changes nothing: " + touched.get(i) + " as without it: " + untouched.get(i), false);
                return;
            }
        }
    }

    /** A call has its answer, and something is not as without it: the other side of leaves(). */
    void changes(String call, ToLongFunction<CastGallery> asked, long answer) {
        check.due(call, asked.applyAsLong(made()), answer);
        check.holds(call + " changes something", !everything(asked).equals(everything(x -> 0)));
    }

    private List<String> everything(ToLongFunction<CastGallery> asked) {
        List<String> all = new ArrayList<>();
        for (int undone = 0; undone <= MOST_UNDONE + 1; undone++) {
            int times = undone;
            all.add(behind(asked, "undone " + times, x -> "" + undo(x, times)));
            all.add(behind(asked, "image 0, undone " + times, x -> x.back(0) + " " + undo(x, times)));
            all.add(behind(asked, "image 1, undone " + times, x -> x.back(1) + " " + undo(x, times)));
        }
        all.add(behind(asked, "read anew", x -> "" + x.hall()));
        all.add(behind(asked, "one byte more, read anew", x -> x.type(';') + " " + x.hall()));
        return all;
    }

    private interface Way {
        String on(CastGallery x);
    }

    private String behind(ToLongFunction<CastGallery> asked, String name, Way way) {
        CastGallery x = made();
        asked.applyAsLong(x);
        return name + ": " + way.on(x) + " " + seen(x);
    }

    private static int undo(CastGallery x, int times) {
        int last = 0;
        for (int i = 0; i < times; i++) {
            last = x.undo();
        }
        return last;
    }

    /** All that can be asked for without a change: some 150 calls at most. */
    static String seen(CastGallery x) {
        StringBuilder all = new StringBuilder();
        for (int what = 0; what <= 4; what++) {
            all.append(x.count(what)).append(' ').append(x.now(what)).append(' ');
        }
        int things = x.count(0);
        int casts = x.count(1);
        for (int t = 0; t < things; t++) {
            for (int what = 0; what <= 4; what++) {
                all.append(x.thing(t, what)).append(' ');
            }
        }
        for (int c = 0; c < casts; c++) {
            for (int what = 0; what <= 7; what++) {
                all.append(x.cast(c, what)).append(' ');
            }
            for (int t = 0; t < things; t++) {
                all.append(x.far(c, t)).append(' ');
            }
        }
        return all.append(x.who()).append(' ').append(x.ask()).append(' ').append(x.trace()).toString();
    }

    /** What is first refused on either side of a range, and the farthest out. */
    static int[] beyond(int least, int most) {
        return new int[] {least - 1, most + 1, Integer.MIN_VALUE, Integer.MAX_VALUE};
    }
}
