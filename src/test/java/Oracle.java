import java.util.ArrayList;
import java.util.List;
import java.util.TreeSet;

/** The document written a second time, slowly and by trying all: what CastGallery is held against. */
final class Oracle {
    private static final int BAD = -1, STATE = -2, FULL = -3, NONE = -9;

    private record Thing(int load, int hard, int part, TreeSet<Integer> needs) { }

    private static final class Cast {
        int lime;
        int wit;
        TreeSet<Integer> lacks = new TreeSet<>();
        TreeSet<Integer> can = new TreeSet<>();
        int[] far = new int[8];
        int cracks;
        boolean broken;
        Integer course;

        Cast copy() {
            Cast c = new Cast();
            c.lime = lime;
            c.wit = wit;
            c.lacks = new TreeSet<>(lacks);
            c.can = new TreeSet<>(can);
            c.far = far.clone();
            c.cracks = cracks;
            c.broken = broken;
            c.course = course;
            return c;
        }
    }

    private record Now(int night, List<Cast> casts) {
        Now copy() {
            List<Cast> copies = new ArrayList<>();
            for (Cast c : casts) {
                copies.add(c.copy());
            }
            return new Now(night, copies);
        }
    }

    private record Image(Now now, List<Now> past) { }

    private String text = "";
    private List<Thing> things = new ArrayList<>();
    private Now now = new Now(0, new ArrayList<>());
    private List<Now> past = new ArrayList<>();
    private final Image[] images = new Image[2];
    private final List<int[]> heard = new ArrayList<>();
    private long trace;

    private static int bits(Iterable<Integer> numbers) {
        int bits = 0;
        for (int n : numbers) {
            bits |= 1 << n;
        }
        return bits;
    }

    private boolean noThing(int t) {
        return t < 0 || t >= things.size();
    }

    private boolean noCast(int c) {
        return c < 0 || c >= now.casts.size();
    }

    private Cast at(int c) {
        return now.casts.get(c);
    }

    // ---- the hall

    int type(int c) {
        if (c < 0 || c > 255) {
            return BAD;
        }
        if (text.length() == 150) {
            return FULL;
        }
        text += (char) c;
        return text.length();
    }

    int clear() {
        int had = text.length();
        text = "";
        return had;
    }

    private record Token(String word, int place) { }

    /** Splits the text; an ill byte is a word of its own, which can stand nowhere. */
    private List<Token> tokens() {
        List<Token> all = new ArrayList<>();
        int i = 0;
        while (i < text.length()) {
            String rest = text.substring(i);
            String word = rest.replaceFirst("(?s)^([a-z]+|[0-9]+|.).*$", "$1");
            if (!word.equals(" ")) {
                all.add(new Token(word, i));
            }
            i += word.length();
        }
        all.add(new Token("", text.length()));
        return all;
    }

    int hall() {
        List<Thing> newThings = new ArrayList<>();
        List<Cast> newCasts = new ArrayList<>();
        List<Token> all = tokens();
        int i = 0;
        while (!all.get(i).word.isEmpty()) {
            boolean ofThing = all.get(i).word.equals("t") && newThings.size() < 8;
            boolean ofCast = all.get(i).word.equals("c") && newCasts.size() < 6;
            if (!ofThing && !ofCast) {
                return -10 - all.get(i).place;
            }
            i++;
            int own = newThings.size();
            int[][] bounds = ofThing
                ? new int[][] {{0, 9}, {1, 30}, {0, 6}, {0, own}, {0, own}}
                : new int[][] {{1, 99}, {1, 9}, {0, 63}};
            int[] told = new int[bounds.length];
            for (int j = 0; j < bounds.length; j++, i++) {
                if (!all.get(i).word.matches("0|[1-9][0-9]?")) {
                    return -10 - all.get(i).place;
                }
                told[j] = Integer.parseInt(all.get(i).word);
                if (told[j] < bounds[j][0] || told[j] > bounds[j][1]) {
                    return -10 - all.get(i).place;
                }
            }
            if (!all.get(i).word.equals(";")) {
                return -10 - all.get(i).place;
            }
            i++;
            if (ofThing) {
                TreeSet<Integer> needs = new TreeSet<>(List.of(told[3]));
                needs.add(told[4]);
                needs.remove(own);
                newThings.add(new Thing(told[0], told[1], told[2], needs));
            } else {
                Cast c = new Cast();
                c.lime = told[0];
                c.wit = told[1];
                for (int p = 0; p < 6; p++) {
                    if ((told[2] & 1 << p) != 0) {
                        c.lacks.add(p);
                    }
                }
                newCasts.add(c);
            }
        }
        text = "";
        things = newThings;
        now = new Now(0, newCasts);
        past = new ArrayList<>();
        heard.clear();
        images[0] = null;
        images[1] = null;
        return newThings.size() + newCasts.size();
    }

    private TreeSet<Integer> whoCan(int t) {
        TreeSet<Integer> who = new TreeSet<>();
        for (int c = 0; c < now.casts.size(); c++) {
            if (at(c).can.contains(t)) {
                who.add(c);
            }
        }
        return who;
    }

    int thing(int t, int what) {
        if (noThing(t) || what < 0 || what > 4) {
            return BAD;
        }
        Thing x = things.get(t);
        return new int[] {x.load, x.hard, x.part, bits(x.needs), bits(whoCan(t))}[what];
    }

    private boolean may(Cast c, int t) {
        Thing x = things.get(t);
        return !c.broken && !c.can.contains(t) && c.can.containsAll(x.needs) && !c.lacks.contains(x.part);
    }

    private TreeSet<Integer> allItMay(Cast c) {
        TreeSet<Integer> all = new TreeSet<>();
        for (int t = 0; t < things.size(); t++) {
            if (may(c, t)) {
                all.add(t);
            }
        }
        return all;
    }

    int cast(int c, int what) {
        if (noCast(c) || what < 0 || what > 7) {
            return BAD;
        }
        Cast x = at(c);
        return new int[] {x.lime, x.wit, bits(x.lacks), x.cracks, x.broken ? 1 : 0, bits(x.can),
            bits(allItMay(x)), x.course == null ? NONE : x.course}[what];
    }

    int far(int c, int t) {
        return noCast(c) || noThing(t) ? BAD : at(c).far[t];
    }

    // ---- what is done

    private void remember() {
        past.add(now.copy());
        if (past.size() > 10) {
            past.remove(0);
        }
    }

    int sets(int c, int t) {
        if (noCast(c) || (t != -1 && noThing(t))) {
            return BAD;
        }
        Integer was = at(c).course;
        if (t == -1 ? was == null : !may(at(c), t) || (was != null && was == t)) {
            return STATE;
        }
        remember();
        at(c).course = t == -1 ? null : t;
        return was == null ? NONE : was;
    }

    int nights(int n) {
        if (n < 1 || n > 9) {
            return BAD;
        }
        if (now.night + n > 999) {
            return STATE;
        }
        remember();
        for (int i = 0; i < n; i++) {
            for (Cast c : now.casts) {
                if (c.course != null) {
                    Thing x = things.get(c.course);
                    c.far[c.course] += c.wit;
                    c.cracks += x.load;
                    c.broken = c.cracks > c.lime;
                    boolean learnt = !c.broken && c.far[c.course] >= x.hard;
                    if (learnt) {
                        c.can.add(c.course);
                    }
                    if (learnt || c.broken) {
                        c.course = null;
                    }
                }
            }
        }
        now = new Now(now.night + n, now.casts);
        return bitCount(now(1));
    }

    private static int bitCount(int bits) {
        return Integer.toBinaryString(bits).replace("0", "").length();
    }

    int mends(int c) {
        if (noCast(c)) {
            return BAD;
        }
        int had = at(c).cracks;
        if (had == 0) {
            return STATE;
        }
        remember();
        at(c).cracks = 0;
        at(c).broken = false;
        return had;
    }

    int joins(int from, int to, int part) {
        if (noCast(from) || noCast(to) || from == to || part < 0 || part > 5) {
            return BAD;
        }
        if (at(from).lacks.contains(part) || !at(to).lacks.contains(part)) {
            return STATE;
        }
        remember();
        at(from).lacks.add(part);
        at(to).lacks.remove(part);
        for (Cast c : now.casts) {
            if (c.course != null && c.lacks.contains(things.get(c.course).part)) {
                c.course = null;
            }
        }
        return bits(at(to).lacks);
    }

    int undo() {
        if (past.isEmpty()) {
            return STATE;
        }
        now = past.remove(past.size() - 1);
        return past.size();
    }

    int now(int what) {
        if (what < 0 || what > 4) {
            return BAD;
        }
        TreeSet<Integer> broken = new TreeSet<>();
        TreeSet<Integer> busy = new TreeSet<>();
        int learnt = 0;
        for (int c = 0; c < now.casts.size(); c++) {
            if (at(c).broken) {
                broken.add(c);
            }
            if (at(c).course != null) {
                busy.add(c);
            }
            learnt += at(c).can.size();
        }
        return new int[] {now.night, bits(broken), bits(busy), learnt, what == 4 ? tree() : 0}[what];
    }

    /** Tries every set of edges (15 of them at most). */
    private int tree() {
        int n = now.casts.size();
        List<int[]> edges = new ArrayList<>();
        for (int a = 0; a < n; a++) {
            for (int b = a + 1; b < n; b++) {
                edges.add(new int[] {a, b, near(a, b)});
            }
        }
        int least = Integer.MAX_VALUE;
        for (int set = 0; set < 1 << edges.size(); set++) {
            if (bitCount(set) != Math.max(n - 1, 0)) {
                continue;
            }
            int sum = 0;
            int[] group = {0, 1, 2, 3, 4, 5};
            int joined = 0;
            for (int e = 0; e < edges.size(); e++) {
                if ((set & 1 << e) != 0) {
                    int[] edge = edges.get(e);
                    sum += edge[2];
                    int old = group[edge[1]];
                    int young = group[edge[0]];
                    joined += old == young ? 0 : 1;
                    for (int i = 0; i < 6; i++) {
                        group[i] = group[i] == old ? young : group[i];
                    }
                }
            }
            if (joined == Math.max(n - 1, 0)) {
                least = Math.min(least, sum);
            }
        }
        return least;
    }

    // ---- what could be

    private int nightsFor(Cast c, int t) {
        int nights = 0;
        for (int far = c.far[t]; far < things.get(t).hard; far += c.wit) {
            nights++;
        }
        return nights == 0 ? 1 : nights;
    }

    private void gather(Cast c, int t, TreeSet<Integer> set) {
        if (!c.can.contains(t)) {
            set.add(t);
            for (int needed : things.get(t).needs) {
                gather(c, needed, set);
            }
        }
    }

    private int sum(Cast c, Iterable<Integer> set, boolean cracks) {
        int sum = 0;
        for (int t : set) {
            sum += nightsFor(c, t) * (cracks ? things.get(t).load : 1);
        }
        return sum;
    }

    int plan(int c, int t, int k) {
        if (noCast(c) || noThing(t) || k < -3 || k > 7) {
            return BAD;
        }
        Cast x = at(c);
        if (x.can.contains(t)) {
            return k < 0 ? 0 : NONE;
        }
        TreeSet<Integer> set = new TreeSet<>();
        gather(x, t, set);
        boolean lacking = false;
        for (int s : set) {
            lacking |= x.lacks.contains(things.get(s).part);
        }
        if (x.broken || lacking || x.cracks + sum(x, set, true) > x.lime) {
            return NONE;
        }
        if (k < 0) {
            return new int[] {sum(x, set, true), sum(x, set, false), bits(set)}[k + 3];
        }
        TreeSet<Integer> known = new TreeSet<>(x.can);
        List<Integer> order = new ArrayList<>();
        while (order.size() < set.size()) {
            for (int s : set) {
                if (!known.contains(s) && known.containsAll(things.get(s).needs)) {
                    known.add(s);
                    order.add(s);
                    break;
                }
            }
        }
        return k < order.size() ? order.get(k) : NONE;
    }

    int best(int c, int n, int what) {
        if (noCast(c) || n < 0 || n > 99 || what < 0 || what > 1) {
            return BAD;
        }
        Cast x = at(c);
        int[] best = {0, 0, 0};
        for (int set = 0; set < 1 << things.size() && !x.broken; set++) {
            TreeSet<Integer> chosen = new TreeSet<>();
            for (int t = 0; t < things.size(); t++) {
                if ((set & 1 << t) != 0) {
                    chosen.add(t);
                }
            }
            TreeSet<Integer> known = new TreeSet<>(x.can);
            known.addAll(chosen);
            boolean fits = sum(x, chosen, false) <= n && x.cracks + sum(x, chosen, true) <= x.lime;
            for (int t : chosen) {
                Thing y = things.get(t);
                fits &= !x.can.contains(t) && known.containsAll(y.needs) && !x.lacks.contains(y.part);
            }
            int[] key = {-chosen.size(), sum(x, chosen, false), set};
            if (fits && java.util.Arrays.compare(key, best) < 0) {
                best = key;
            }
        }
        return what == 0 ? best[2] : best[1];
    }

    private int[] way;
    private int wayCount;

    /** Tries all ways in their order, and keeps the first of the most. */
    private void tryOwn(int[] chosen, int c, int used, int count) {
        if (c == now.casts.size()) {
            if (count > wayCount) {
                way = chosen.clone();
                wayCount = count;
            }
            return;
        }
        for (int t : allItMay(at(c))) {
            if ((used & 1 << t) == 0) {
                chosen[c] = t;
                tryOwn(chosen, c + 1, used | 1 << t, count + 1);
            }
        }
        chosen[c] = NONE;
        // No way from here could be more than the best, and a like one comes too late.
        if (count + now.casts.size() - c - 1 > wayCount) {
            tryOwn(chosen, c + 1, used, count);
        }
    }

    int own(int c) {
        if (c != -1 && noCast(c)) {
            return BAD;
        }
        way = null;
        wayCount = -1;
        tryOwn(new int[6], 0, 0, 0);
        return c == -1 ? wayCount : way[c];
    }

    int near(int a, int b) {
        if (noCast(a) || noCast(b) || a == b) {
            return BAD;
        }
        int unlike = 0;
        for (int p = 0; p < 6; p++) {
            unlike += at(a).lacks.contains(p) != at(b).lacks.contains(p) ? 1 : 0;
        }
        return unlike;
    }

    int odds(int x, int k, int what) {
        if (x < 0 || x > 10 || k < 0 || k > 6 || what < 0 || what > 1) {
            return BAD;
        }
        int whole = 0;
        for (Cast c : now.casts) {
            whole += c.broken ? 0 : 1;
        }
        java.math.BigInteger upper = java.math.BigInteger.ZERO;
        for (int falls = 0; falls < 1 << whole; falls++) {
            if (bitCount(falls) <= k) {
                upper = upper.add(java.math.BigInteger.valueOf(x).pow(bitCount(falls))
                    .multiply(java.math.BigInteger.valueOf(10 - x).pow(whole - bitCount(falls))));
            }
        }
        java.math.BigInteger lower = java.math.BigInteger.TEN.pow(whole);
        return (what == 0 ? upper : lower).divide(upper.gcd(lower)).intValue();
    }

    // ---- which it was

    int hears(int t, int can) {
        if (noThing(t) || can < 0 || can > 1) {
            return BAD;
        }
        if (heard.size() == 6) {
            return FULL;
        }
        heard.add(new int[] {t, can});
        return heard.size();
    }

    int forget() {
        int had = heard.size();
        heard.clear();
        return had;
    }

    private TreeSet<Integer> suspects() {
        TreeSet<Integer> left = new TreeSet<>();
        for (int c = 0; c < now.casts.size(); c++) {
            boolean so = true;
            for (int[] h : heard) {
                so &= at(c).can.contains(h[0]) == (h[1] == 1);
            }
            if (so) {
                left.add(c);
            }
        }
        return left;
    }

    int who() {
        return bits(suspects());
    }

    int ask() {
        TreeSet<Integer> left = suspects();
        int found = NONE;
        int smallest = Integer.MAX_VALUE;
        for (int t = 0; t < things.size(); t++) {
            TreeSet<Integer> able = new TreeSet<>(left);
            able.retainAll(whoCan(t));
            int unable = left.size() - able.size();
            if (able.size() > 0 && unable > 0 && Math.max(able.size(), unable) < smallest) {
                smallest = Math.max(able.size(), unable);
                found = t;
            }
        }
        return found;
    }

    // ---- kinds, images

    int mark(int kind, int c) {
        if (kind < 0 || kind > 5 || noCast(c)) {
            return -1000000;
        }
        int[] above = {-1, 0, 0, 1, 2, 0};
        int up = kind == 0 ? at(c).cracks : mark(above[kind], c);
        trace += new long[] {1, 10, 100, 1000, 10000, 100000}[kind];
        return new int[] {up, up + at(c).can.size(), up - at(c).lacks.size(), 2 * up, up + c, up + now.night}[kind];
    }

    int keep(int image) {
        if (image < 0 || image > 1) {
            return BAD;
        }
        images[image] = new Image(now.copy(), copies(past));
        return now.night;
    }

    private static List<Now> copies(List<Now> nows) {
        List<Now> all = new ArrayList<>();
        for (Now n : nows) {
            all.add(n.copy());
        }
        return all;
    }

    int back(int image) {
        if (image < 0 || image > 1) {
            return BAD;
        }
        if (images[image] == null) {
            return STATE;
        }
        now = images[image].now.copy();
        past = copies(images[image].past);
        return now.night;
    }

    int count(int what) {
        if (what < 0 || what > 4) {
            return BAD;
        }
        return new int[] {things.size(), now.casts.size(), heard.size(), past.size(), text.length()}[what];
    }

    long trace() {
        return trace;
    }
}
