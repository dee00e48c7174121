/** Counts the answers that are not as due; used by every test of the project. */
final class Check {
    private int wrong;

    void due(String what, long got, long want) {
        if (got != want) {
            wrong++;
            System.out.println(what + " answered " + got + ", due is " + want);
        }
    }

    void holds(String what, boolean so) {
        if (!so) {
            wrong++;
            System.out.println(what + " does not hold");
        }
    }

    boolean hasFailed() {
        return wrong > 0;
    }

    void end() {
        if (wrong > 0) {
            System.out.println(wrong + " answers are not as due");
            System.exit(1);
        }
    }

    static void typeAll(CastGallery x, String text) {
        for (int i = 0; i < text.length(); i++) {
            x.type(text.charAt(i));
        }
    }

    /** A new object whose hall is as a text tells. */
    static CastGallery told(String text) {
        CastGallery x = new CastGallery();
        typeAll(x, text);
        int items = x.hall();
        if (items < 0) {
            throw new IllegalStateException("a test's own text has a fault: " + text + " " + items);
        }
        return x;
    }
}
