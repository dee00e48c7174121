import java.util.Random;

/** Long runs of chosen calls, each answer held against the Oracle's; the same runs every time. */
public final class OracleTest {
    private static final int RUNS = 1500;
    /** An object is used for 512 calls; the last round of a run may go four beyond this. */
    private static final int CALLS = 508;
    private static final int[] FAR_OUT = {Integer.MIN_VALUE, -1000000, -9, -4, 10, 64, 256, 1 << 20, Integer.MAX_VALUE};

    private final Random random;
    private final Check check;
    private final CastGallery x = new CastGallery();
    private final Oracle y = new Oracle();
    private final int run;
    private int calls;

    private OracleTest(int run, Check check) {
        this.run = run;
        this.random = new Random(run);
        this.check = check;
    }

    public static void main(String[] args) {
        Check check = new Check();
        for (int run = 0; run < RUNS && !check.hasFailed(); run++) {
            OracleTest test = new OracleTest(run, check);
            if (run % 3 == 0) {
                test.tellOften();
            } else {
                test.liveLong();
            }
        }
        check.end();
    }

    private boolean goesOn() {
        return calls < CALLS && !check.hasFailed();
    }

    private void due(String call, long got, long want) {
        calls++;
        check.due("run " + run + ", call " + calls + ": " + call, got, want);
    }

    /** Texts with faults among them, a few calls behind each. */
    private void tellOften() {
        while (goesOn()) {
            tell(spoil(text()));
            for (int i = 0; i < 12 && goesOn(); i++) {
                call(random.nextInt(26));
            }
            if (random.nextBoolean()) {
                due("clear()", x.clear(), y.clear());
            }
        }
    }

    /** One text or two, many calls: many of them change something, so that much is reached. */
    private void liveLong() {
        tell(text());
        int[] doing = {6, 6, 6, 6, 6, 6, 7, 7, 7, 8, 9, 9};
        boolean again = random.nextBoolean();
        while (goesOn()) {
            call(random.nextInt(3) == 0 ? doing[random.nextInt(doing.length)] : 3 + random.nextInt(23));
            if (again && calls > CALLS / 2) {
                tell(text());
                again = false;
            }
        }
    }

    private void tell(String text) {
        for (int i = 0; i < text.length() && goesOn(); i++) {
            int c = text.charAt(i);
            due("type(" + c + ")", x.type(c), y.type(c));
        }
        due("hall() of '" + text + "'", x.hall(), y.hall());
    }

    private String text() {
        StringBuilder told = new StringBuilder();
        int things = random.nextInt(9);
        int casts = random.nextInt(7);
        int t = 0;
        int c = 0;
        boolean mild = random.nextBoolean();
        while (t < things || c < casts) {
            if (c == casts || (t < things && random.nextInt(3) > 0)) {
                told.append("t").append(random.nextInt(mild ? 3 : 10)).append(' ')
                    .append(1 + random.nextInt(mild ? 9 : 30)).append(' ').append(random.nextInt(7)).append(' ')
                    .append(random.nextInt(t + 1)).append(' ').append(random.nextInt(t + 1)).append(';');
                t++;
            } else {
                told.append("c").append(1 + random.nextInt(99)).append(' ').append(1 + random.nextInt(9)).append(' ')
                    .append(random.nextInt(64) & (mild ? random.nextInt(64) : 63)).append(';');
                c++;
            }
        }
        return told.toString();
    }

    private String spoil(String text) {
        StringBuilder told = new StringBuilder(text);
        String signs = "tc;0123456789  az#";
        for (int i = random.nextInt(3); i > 0; i--) {
            int place = random.nextInt(told.length() + 1);
            switch (random.nextInt(3)) {
                case 0 -> told.insert(place, signs.charAt(random.nextInt(signs.length())));
                case 1 -> told.setLength(place);
                default -> {
                    if (place < told.length()) {
                        told.setCharAt(place, (char) random.nextInt(random.nextBoolean() ? 128 : 256));
                    }
                }
            }
        }
        return told.toString();
    }

    /** Mostly within bounds, now and then just or far beyond them. */
    private int number(int least, int most) {
        int kind = random.nextInt(40);
        if (kind == 0) {
            return FAR_OUT[random.nextInt(FAR_OUT.length)];
        }
        if (kind == 1) {
            return random.nextBoolean() ? least - 1 : most + 1;
        }
        return most < least ? least : least + random.nextInt(most - least + 1);
    }

    private int anyThing() {
        return number(0, y.count(0) - 1);
    }

    private int anyCast() {
        return number(0, y.count(1) - 1);
    }

    private void call(int which) {
        if (which < 13) {
            callDone(which);
        } else {
            callAsked(which);
        }
    }

    private void callDone(int which) {
        int a;
        int b;
        int c;
        switch (which) {
            case 0 -> due("type(" + (a = number(0, 255)) + ")", x.type(a), y.type(a));
            case 1 -> due("clear()", x.clear(), y.clear());
            case 2 -> due("hall()", x.hall(), y.hall());
            case 3 -> due("thing(" + (a = anyThing()) + ", " + (b = number(0, 4)) + ")", x.thing(a, b), y.thing(a, b));
            case 4 -> due("cast(" + (a = anyCast()) + ", " + (b = number(0, 7)) + ")", x.cast(a, b), y.cast(a, b));
            case 5 -> due("far(" + (a = anyCast()) + ", " + (b = anyThing()) + ")", x.far(a, b), y.far(a, b));
            case 6 -> {
                a = anyCast();
                int may = Math.max(y.cast(a, 6), 0);
                b = may != 0 && random.nextInt(4) > 0 ? Integer.numberOfTrailingZeros(may) : number(-1, y.count(0) - 1);
                due("sets(" + a + ", " + b + ")", x.sets(a, b), y.sets(a, b));
            }
            case 7 -> due("nights(" + (a = number(1, 9)) + ")", x.nights(a), y.nights(a));
            case 8 -> due("mends(" + (a = anyCast()) + ")", x.mends(a), y.mends(a));
            case 9 -> due("joins(" + (a = anyCast()) + ", " + (b = anyCast()) + ", " + (c = number(0, 5)) + ")",
                x.joins(a, b, c), y.joins(a, b, c));
            case 10 -> due("undo()", x.undo(), y.undo());
            case 11 -> due("now(" + (a = number(0, 3)) + ")", x.now(a), y.now(a));
            default -> {
                // The oracle tries all trees, which is slow: not too often.
                a = random.nextInt(8) == 0 ? 4 : 0;
                due("now(" + a + ")", x.now(a), y.now(a));
            }
        }
    }

    private void callAsked(int which) {
        int a;
        int b;
        int c;
        switch (which) {
            case 13 -> due("plan(" + (a = anyCast()) + ", " + (b = anyThing()) + ", " + (c = number(-3, 7)) + ")",
                x.plan(a, b, c), y.plan(a, b, c));
            case 14 -> due("best(" + (a = anyCast()) + ", " + (b = number(0, random.nextBoolean() ? 20 : 99)) + ", "
                + (c = number(0, 1)) + ")", x.best(a, b, c), y.best(a, b, c));
            case 15 -> due("own(" + (a = number(-1, y.count(1) - 1)) + ")", x.own(a), y.own(a));
            case 16 -> due("near(" + (a = anyCast()) + ", " + (b = anyCast()) + ")", x.near(a, b), y.near(a, b));
            case 17 -> due("odds(" + (a = number(0, 10)) + ", " + (b = number(0, 6)) + ", " + (c = number(0, 1)) + ")",
                x.odds(a, b, c), y.odds(a, b, c));
            case 18 -> due("hears(" + (a = anyThing()) + ", " + (b = number(0, 1)) + ")", x.hears(a, b), y.hears(a, b));
            case 19 -> due("forget()", x.forget(), y.forget());
            case 20 -> due("who()", x.who(), y.who());
            case 21 -> due("ask()", x.ask(), y.ask());
            case 22 -> due("mark(" + (a = number(0, 5)) + ", " + (b = anyCast()) + ")", x.mark(a, b), y.mark(a, b));
            case 23 -> due("keep(" + (a = number(0, 1)) + ")", x.keep(a), y.keep(a));
            case 24 -> due("back(" + (a = number(0, 1)) + ")", x.back(a), y.back(a));
            default -> {
                due("count(" + (a = number(0, 4)) + ")", x.count(a), y.count(a));
                due("trace()", x.trace(), y.trace());
            }
        }
    }
}
