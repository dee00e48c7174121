import java.util.Arrays;

/** A hall of plaster casts with ambitions; ../shared/DOC.md says what each call promises. */
public final class CastGallery {
    public static final int BAD = -1, STATE = -2, FULL = -3, NONE = -9;
    public static final int NO = -1000000;

    private static final int PARTS = 6;
    private static final int THINGS = 8;
    private static final int CASTS = 6;
    private static final int TEXT = 150;
    private static final int LAST_NIGHT = 999;
    private static final int LONGEST_SPAN = 99;
    private static final int IMAGES = 2;
    private static final int KINDS = 6;
    private static final int NO_CLASS = -1;
    private static final int FIRST_FAULT = -10;

    private final Reader reader;
    private final Hall hall;
    private final Past past;
    private final Image[] images;
    private final Planner planner;
    private final Owners owners;
    private final Hearsay hearsay;
    private final Kinds kinds;

    public CastGallery() {
        reader = new Reader();
        hall = new Hall();
        past = new Past();
        images = new Image[IMAGES];
        for (int i = 0; i < IMAGES; i++) {
            images[i] = new Image();
        }
        planner = new Planner(hall);
        owners = new Owners(hall);
        hearsay = new Hearsay(hall);
        kinds = new Kinds(hall);
    }

    // ---- the hall

    public int type(int c) {
        if (c < 0 || c > 255) {
            return BAD;
        }
        if (reader.length >= TEXT) {
            return FULL;
        }
        reader.text[reader.length] = c;
        reader.length++;
        return reader.length;
    }

    public int clear() {
        int had = reader.length;
        reader.length = 0;
        return had;
    }

    public int hall() {
        if (!reader.readsAll()) {
            return FIRST_FAULT - reader.start;
        }
        hall.beginAs(reader.read);
        past.held = 0;
        hearsay.held = 0;
        for (int i = 0; i < IMAGES; i++) {
            images[i].kept = false;
        }
        reader.length = 0;
        return hall.told.things + hall.told.casts;
    }

    public int thing(int t, int what) {
        if (!hall.isThing(t)) {
            return BAD;
        }
        switch (what) {
            case 0: return hall.told.load[t];
            case 1: return hall.told.hard[t];
            case 2: return hall.told.part[t];
            case 3: return hall.told.needs[t];
            case 4: return hall.whoCan(t);
            default: return BAD;
        }
    }

    public int cast(int c, int what) {
        if (!hall.isCast(c)) {
            return BAD;
        }
        switch (what) {
            case 0: return hall.told.lime[c];
            case 1: return hall.told.wit[c];
            case 2: return hall.moment.lacks[c];
            case 3: return hall.moment.cracks[c];
            case 4: return hall.isBroken(c) ? 1 : 0;
            case 5: return hall.moment.can[c];
            case 6: return hall.allItMay(c);
            case 7: return orNone(hall.moment.course[c]);
            default: return BAD;
        }
    }

    public int far(int c, int t) {
        if (!hall.isCast(c) || !hall.isThing(t)) {
            return BAD;
        }
        return hall.moment.far[c * THINGS + t];
    }

    // ---- what is done

    public int sets(int c, int t) {
        if (!hall.isCast(c) || (t != NO_CLASS && !hall.isThing(t))) {
            return BAD;
        }
        int was = hall.moment.course[c];
        if (t == was || (t != NO_CLASS && !hall.may(c, t))) {
            return STATE;
        }
        past.remember(hall.moment);
        hall.moment.course[c] = t;
        return orNone(was);
    }

    public int nights(int n) {
        if (n < 1 || n > 9) {
            return BAD;
        }
        if (hall.moment.night + n > LAST_NIGHT) {
            return STATE;
        }
        past.remember(hall.moment);
        for (int i = 0; i < n; i++) {
            hall.passNight();
        }
        return Integer.bitCount(hall.moment.broken);
    }

    public int mends(int c) {
        if (!hall.isCast(c)) {
            return BAD;
        }
        int had = hall.moment.cracks[c];
        if (had == 0) {
            return STATE;
        }
        past.remember(hall.moment);
        hall.moment.cracks[c] = 0;
        hall.moment.broken &= ~(1 << c);
        return had;
    }

    public int joins(int from, int to, int part) {
        if (!hall.isCast(from) || !hall.isCast(to) || from == to || part < 0 || part >= PARTS) {
            return BAD;
        }
        if (has(hall.moment.lacks[from], part) || !has(hall.moment.lacks[to], part)) {
            return STATE;
        }
        past.remember(hall.moment);
        hall.joinOn(from, to, part);
        return hall.moment.lacks[to];
    }

    public int undo() {
        if (past.held == 0) {
            return STATE;
        }
        past.recall(hall.moment);
        return past.held;
    }

    public int now(int what) {
        switch (what) {
            case 0: return hall.moment.night;
            case 1: return hall.moment.broken;
            case 2: return hall.whoIsInClass();
            case 3: return hall.learntByAll();
            case 4: return hall.leastTree();
            default: return BAD;
        }
    }

    // ---- what could be

    public int plan(int c, int t, int k) {
        if (!hall.isCast(c) || !hall.isThing(t) || k < -3 || k >= THINGS) {
            return BAD;
        }
        int set = planner.toLearnFor(c, t);
        planner.reckon(c);
        // What it CAN already asks for nothing, so even a BROKEN one is not refused there.
        if (set != 0 && !planner.bears(c, set)) {
            return NONE;
        }
        switch (k) {
            case -1: return set;
            case -2: return planner.nightsOf(set);
            case -3: return planner.cracksOf(set);
            default: return planner.learntAt(set, k);
        }
    }

    public int best(int c, int n, int what) {
        if (!hall.isCast(c) || n < 0 || n > LONGEST_SPAN || what < 0 || what > 1) {
            return BAD;
        }
        int set = planner.mostIn(c, n);
        return what == 0 ? set : planner.nightsOf(set);
    }

    public int own(int c) {
        if (c != -1 && !hall.isCast(c)) {
            return BAD;
        }
        owners.weigh();
        return c == -1 ? owners.mostSet() : owners.thingOf(c);
    }

    public int near(int a, int b) {
        if (!hall.isCast(a) || !hall.isCast(b) || a == b) {
            return BAD;
        }
        return hall.unlikeParts(a, b);
    }

    public int odds(int x, int k, int what) {
        if (x < 0 || x > 10 || k < 0 || k > CASTS || what < 0 || what > 1) {
            return BAD;
        }
        int whole = hall.told.casts - Integer.bitCount(hall.moment.broken);
        int upper = waysToFall(whole, x, k);
        int lower = power(10, whole);
        int common = commonDivisor(upper, lower);
        return (what == 0 ? upper : lower) / common;
    }

    // ---- which it was

    public int hears(int t, int can) {
        if (!hall.isThing(t) || can < 0 || can > 1) {
            return BAD;
        }
        if (hearsay.held >= Hearsay.MOST) {
            return FULL;
        }
        hearsay.add(t, can);
        return hearsay.held;
    }

    public int forget() {
        int had = hearsay.held;
        hearsay.held = 0;
        return had;
    }

    public int who() {
        return hearsay.suspects();
    }

    public int ask() {
        return hearsay.bestQuestion();
    }

    // ---- kinds, images

    public int mark(int kind, int c) {
        if (kind < 0 || kind >= KINDS || !hall.isCast(c)) {
            return NO;
        }
        return kinds.asKind(kind, c);
    }

    public int keep(int image) {
        if (image < 0 || image >= IMAGES) {
            return BAD;
        }
        images[image].take(hall.moment, past);
        return hall.moment.night;
    }

    public int back(int image) {
        if (image < 0 || image >= IMAGES) {
            return BAD;
        }
        if (!images[image].kept) {
            return STATE;
        }
        images[image].give(hall.moment, past);
        return hall.moment.night;
    }

    public int count(int what) {
        switch (what) {
            case 0: return hall.told.things;
            case 1: return hall.told.casts;
            case 2: return hearsay.held;
            case 3: return past.held;
            case 4: return reader.length;
            default: return BAD;
        }
    }

    public long trace() {
        return kinds.traced;
    }

    // ---- numbers

    private static boolean has(int bits, int number) {
        return (bits >> number & 1) == 1;
    }

    private static int orNone(int course) {
        return course == NO_CLASS ? NONE : course;
    }

    /** Of power(10, whole) like chances, those in which k at most fall. */
    private static int waysToFall(int whole, int x, int k) {
        int ways = 0;
        int choices = 1;
        for (int fallen = 0; fallen <= whole && fallen <= k; fallen++) {
            ways += choices * power(x, fallen) * power(10 - x, whole - fallen);
            choices = choices * (whole - fallen) / (fallen + 1);
        }
        return ways;
    }

    private static int power(int base, int times) {
        int product = 1;
        for (int i = 0; i < times; i++) {
            product *= base;
        }
        return product;
    }

    /** At least 1 for every upper and lower, so that it may divide. */
    private static int commonDivisor(int upper, int lower) {
        int a = lower;
        int b = upper;
        // Each second step halves a at least: an int needs no more than 64 of them.
        for (int i = 0; i < 64 && b != 0; i++) {
            int rest = a % b;
            a = b;
            b = rest;
        }
        return Math.max(a, 1);
    }

    /** THINGS and CASTS as a text told them. */
    private static final class Told {
        int things;
        int casts;
        final int[] load = new int[THINGS];
        final int[] hard = new int[THINGS];
        final int[] part = new int[THINGS];
        final int[] needs = new int[THINGS];
        final int[] lime = new int[CASTS];
        final int[] wit = new int[CASTS];
        final int[] lacks = new int[CASTS];

        void addThing(int[] numbers) {
            load[things] = numbers[0];
            hard[things] = numbers[1];
            part[things] = numbers[2];
            // Its own number says that nothing is needed.
            needs[things] = (1 << numbers[3] | 1 << numbers[4]) & ~(1 << things);
            things++;
        }

        void addCast(int[] numbers) {
            lime[casts] = numbers[0];
            wit[casts] = numbers[1];
            lacks[casts] = numbers[2];
            casts++;
        }

        void become(Told other) {
            things = other.things;
            casts = other.casts;
            System.arraycopy(other.load, 0, load, 0, THINGS);
            System.arraycopy(other.hard, 0, hard, 0, THINGS);
            System.arraycopy(other.part, 0, part, 0, THINGS);
            System.arraycopy(other.needs, 0, needs, 0, THINGS);
            System.arraycopy(other.lime, 0, lime, 0, CASTS);
            System.arraycopy(other.wit, 0, wit, 0, CASTS);
            System.arraycopy(other.lacks, 0, lacks, 0, CASTS);
        }
    }

    /** THE TEXT and how it is read: one TOKEN is looked at, and taken if it may stand there. */
    private static final class Reader {
        private static final int END = 0, LETTERS = 1, NUMBER = 2, STOP = 3, WRONG = 4;
        private static final int HIGHEST = 99;
        private static final int THING_NUMBERS = 5, CAST_NUMBERS = 3;
        private static final int[] THING_LEAST = {0, 1, 0}, THING_MOST = {9, 30, 6};
        private static final int[] CAST_LEAST = {1, 1, 0}, CAST_MOST = {99, 9, 63};

        final int[] text = new int[TEXT];
        int length;
        /** Kept apart from the hall, which a text with a FAULT must not change. */
        final Told read = new Told();
        /** Where the TOKEN that is looked at begins: the FAULT, if reading ends there. */
        int start;
        private int next;
        private int sort;
        private int value;
        private final int[] numbers = new int[THING_NUMBERS];

        boolean readsAll() {
            read.things = 0;
            read.casts = 0;
            next = 0;
            look();
            for (int i = 0; i < TEXT && sort != END; i++) {
                if (!readsItem()) {
                    return false;
                }
            }
            return sort == END;
        }

        private boolean readsItem() {
            boolean ofThing = sort == LETTERS && value == 't' && read.things < THINGS;
            boolean ofCast = sort == LETTERS && value == 'c' && read.casts < CASTS;
            if (!ofThing && !ofCast) {
                return false;
            }
            look();
            int told = ofThing ? THING_NUMBERS : CAST_NUMBERS;
            for (int i = 0; i < told; i++) {
                if (ofThing ? !fitsThing(i) : !fitsCast(i)) {
                    return false;
                }
                numbers[i] = value;
                look();
            }
            if (sort != STOP) {
                return false;
            }
            look();
            if (ofThing) {
                read.addThing(numbers);
            } else {
                read.addCast(numbers);
            }
            return true;
        }

        private boolean fitsThing(int i) {
            if (sort != NUMBER) {
                return false;
            }
            // What it NEEDS was told ahead, or is its own number.
            return i < 3 ? value >= THING_LEAST[i] && value <= THING_MOST[i] : value <= read.things;
        }

        private boolean fitsCast(int i) {
            return sort == NUMBER && value >= CAST_LEAST[i] && value <= CAST_MOST[i];
        }

        private void look() {
            while (next < length && text[next] == ' ') {
                next++;
            }
            start = next;
            if (next >= length) {
                sort = END;
            } else if (isLetter(text[next])) {
                lookAtLetters();
            } else if (isDigit(text[next])) {
                lookAtNumber();
            } else {
                sort = text[next] == ';' ? STOP : WRONG;
                next++;
            }
        }

        private void lookAtLetters() {
            int first = text[next];
            int letters = 0;
            while (next < length && isLetter(text[next])) {
                letters++;
                next++;
            }
            sort = LETTERS;
            // No ITEM begins with more letters than one.
            value = letters == 1 ? first : 0;
        }

        private void lookAtNumber() {
            int first = text[next];
            int digits = 0;
            value = 0;
            while (next < length && isDigit(text[next])) {
                // Held just above the highest: a long row of digits must not wrap around.
                value = Math.min(value * 10 + text[next] - '0', HIGHEST + 1);
                digits++;
                next++;
            }
            boolean zeroAhead = first == '0' && digits > 1;
            sort = zeroAhead || value > HIGHEST ? WRONG : NUMBER;
        }

        private static boolean isLetter(int sign) {
            return sign >= 'a' && sign <= 'z';
        }

        private static boolean isDigit(int sign) {
            return sign >= '0' && sign <= '9';
        }
    }

    /** NOW, but for what may be UNDONE: all that is done changes this alone. */
    private static final class Moment {
        /** A row that holds one: far, the four rows of CASTS, the NIGHT, who is BROKEN. */
        static final int SIZE = CASTS * THINGS + 4 * CASTS + 2;

        int night;
        int broken;
        final int[] far = new int[CASTS * THINGS];
        final int[] can = new int[CASTS];
        final int[] lacks = new int[CASTS];
        final int[] cracks = new int[CASTS];
        final int[] course = new int[CASTS];

        Moment() {
            Arrays.fill(course, NO_CLASS);
        }

        void begin(int[] lacksAsTold) {
            night = 0;
            broken = 0;
            Arrays.fill(far, 0);
            Arrays.fill(can, 0);
            System.arraycopy(lacksAsTold, 0, lacks, 0, CASTS);
            Arrays.fill(cracks, 0);
            Arrays.fill(course, NO_CLASS);
        }

        void writeTo(int[] rows, int at) {
            int place = at;
            System.arraycopy(far, 0, rows, place, CASTS * THINGS);
            place += CASTS * THINGS;
            System.arraycopy(can, 0, rows, place, CASTS);
            place += CASTS;
            System.arraycopy(lacks, 0, rows, place, CASTS);
            place += CASTS;
            System.arraycopy(cracks, 0, rows, place, CASTS);
            place += CASTS;
            System.arraycopy(course, 0, rows, place, CASTS);
            place += CASTS;
            rows[place] = night;
            rows[place + 1] = broken;
        }

        void readFrom(int[] rows, int at) {
            int place = at;
            System.arraycopy(rows, place, far, 0, CASTS * THINGS);
            place += CASTS * THINGS;
            System.arraycopy(rows, place, can, 0, CASTS);
            place += CASTS;
            System.arraycopy(rows, place, lacks, 0, CASTS);
            place += CASTS;
            System.arraycopy(rows, place, cracks, 0, CASTS);
            place += CASTS;
            System.arraycopy(rows, place, course, 0, CASTS);
            place += CASTS;
            night = rows[place];
            broken = rows[place + 1];
        }
    }

    /** What was told, how it stands, and what follows from both. */
    private static final class Hall {
        final Told told = new Told();
        final Moment moment = new Moment();

        void beginAs(Told anew) {
            told.become(anew);
            moment.begin(told.lacks);
        }

        boolean isThing(int t) {
            return t >= 0 && t < told.things;
        }

        boolean isCast(int c) {
            return c >= 0 && c < told.casts;
        }

        boolean isBroken(int c) {
            return has(moment.broken, c);
        }

        boolean lacksPartOf(int c, int t) {
            // No CAST lacks PART 6 (none): the bits end below it.
            return has(moment.lacks[c], told.part[t]);
        }

        boolean may(int c, int t) {
            return !isBroken(c)
                && !has(moment.can[c], t)
                && (told.needs[t] & ~moment.can[c]) == 0
                && !lacksPartOf(c, t);
        }

        int allItMay(int c) {
            int bits = 0;
            for (int t = 0; t < told.things; t++) {
                if (may(c, t)) {
                    bits |= 1 << t;
                }
            }
            return bits;
        }

        int whoCan(int t) {
            int bits = 0;
            for (int c = 0; c < told.casts; c++) {
                if (has(moment.can[c], t)) {
                    bits |= 1 << c;
                }
            }
            return bits;
        }

        int whoIsInClass() {
            int bits = 0;
            for (int c = 0; c < told.casts; c++) {
                if (moment.course[c] != NO_CLASS) {
                    bits |= 1 << c;
                }
            }
            return bits;
        }

        int learntByAll() {
            int sum = 0;
            for (int c = 0; c < told.casts; c++) {
                sum += Integer.bitCount(moment.can[c]);
            }
            return sum;
        }

        void passNight() {
            for (int c = 0; c < told.casts; c++) {
                int t = moment.course[c];
                if (t != NO_CLASS) {
                    attend(c, t);
                }
            }
            moment.night++;
        }

        private void attend(int c, int t) {
            int at = c * THINGS + t;
            moment.far[at] += told.wit[c];
            moment.cracks[c] += told.load[t];
            if (moment.cracks[c] > told.lime[c]) {
                moment.broken |= 1 << c;
                moment.course[c] = NO_CLASS;
            } else if (moment.far[at] >= told.hard[t]) {
                moment.can[c] |= 1 << t;
                moment.course[c] = NO_CLASS;
            }
        }

        void joinOn(int from, int to, int part) {
            moment.lacks[from] |= 1 << part;
            moment.lacks[to] &= ~(1 << part);
            int t = moment.course[from];
            if (t != NO_CLASS && told.part[t] == part) {
                moment.course[from] = NO_CLASS;
            }
        }

        int unlikeParts(int a, int b) {
            return Integer.bitCount(moment.lacks[a] ^ moment.lacks[b]);
        }

        /** TREE: it grows from CAST 0, each time by the CAST that is nearest to it. */
        int leastTree() {
            int sum = 0;
            int reached = 1;
            for (int i = 1; i < told.casts; i++) {
                int nearest = 0;
                int least = PARTS + 1;
                for (int c = 1; c < told.casts; c++) {
                    if (!has(reached, c) && stepTo(c, reached) < least) {
                        nearest = c;
                        least = stepTo(c, reached);
                    }
                }
                reached |= 1 << nearest;
                sum += least;
            }
            return sum;
        }

        private int stepTo(int c, int reached) {
            int least = PARTS;
            for (int other = 0; other < told.casts; other++) {
                if (has(reached, other)) {
                    least = Math.min(least, unlikeParts(c, other));
                }
            }
            return least;
        }
    }

    /** What may be UNDONE: a ring of rows, in which the newest takes the place of the oldest. */
    private static final class Past {
        private static final int MOST = 10;

        private final int[] rows = new int[MOST * Moment.SIZE];
        private int next;
        int held;

        void remember(Moment moment) {
            moment.writeTo(rows, next * Moment.SIZE);
            next = (next + 1) % MOST;
            held = Math.min(held + 1, MOST);
        }

        void recall(Moment moment) {
            next = (next + MOST - 1) % MOST;
            held--;
            moment.readFrom(rows, next * Moment.SIZE);
        }

        void become(Past other) {
            System.arraycopy(other.rows, 0, rows, 0, MOST * Moment.SIZE);
            next = other.next;
            held = other.held;
        }
    }

    private static final class Image {
        private final int[] row = new int[Moment.SIZE];
        private final Past past = new Past();
        boolean kept;

        void take(Moment moment, Past itsPast) {
            moment.writeTo(row, 0);
            past.become(itsPast);
            kept = true;
        }

        void give(Moment moment, Past itsPast) {
            moment.readFrom(row, 0);
            itsPast.become(past);
        }
    }

    /** PLAN and BEST. The COSTS are reckoned once for a CAST, then asked for many sets. */
    private static final class Planner {
        private final Hall hall;
        private final int[] nightsFor = new int[THINGS];
        private final int[] cracksFor = new int[THINGS];

        Planner(Hall hall) {
            this.hall = hall;
        }

        void reckon(int c) {
            // A WIT is 1 at least wherever a CAST was told.
            int wit = Math.max(hall.told.wit[c], 1);
            for (int t = 0; t < hall.told.things; t++) {
                int left = hall.told.hard[t] - hall.moment.far[c * THINGS + t];
                nightsFor[t] = left <= wit ? 1 : (left + wit - 1) / wit;
                cracksFor[t] = hall.told.load[t] * nightsFor[t];
            }
        }

        int nightsOf(int set) {
            return sumOver(nightsFor, set);
        }

        int cracksOf(int set) {
            return sumOver(cracksFor, set);
        }

        private int sumOver(int[] costs, int set) {
            int sum = 0;
            for (int t = 0; t < hall.told.things; t++) {
                if (has(set, t)) {
                    sum += costs[t];
                }
            }
            return sum;
        }

        int toLearnFor(int c, int t) {
            int set = 1 << t;
            // What a THING NEEDS was told ahead of it: one way down finds all.
            for (int i = t; i >= 0; i--) {
                if (has(set, i)) {
                    set |= hall.told.needs[i];
                }
            }
            return set & ~hall.moment.can[c];
        }

        /** All of a set could be learnt, whatever it NEEDS: behind reckon() for that CAST. */
        boolean bears(int c, int set) {
            return !hall.isBroken(c)
                && (set & ~learnable(c)) == 0
                && hall.moment.cracks[c] + cracksOf(set) <= hall.told.lime[c];
        }

        private int learnable(int c) {
            int bits = 0;
            for (int t = 0; t < hall.told.things; t++) {
                if (!has(hall.moment.can[c], t) && !hall.lacksPartOf(c, t)) {
                    bits |= 1 << t;
                }
            }
            return bits;
        }

        /** A THING NEEDS lower ones alone, so the lowest left could always be next. */
        int learntAt(int set, int k) {
            int ahead = 0;
            for (int t = 0; t < hall.told.things; t++) {
                if (has(set, t)) {
                    if (ahead == k) {
                        return t;
                    }
                    ahead++;
                }
            }
            return NONE;
        }

        int mostIn(int c, int n) {
            reckon(c);
            int best = 0;
            int most = 0;
            int fewest = 0;
            int fit = hall.isBroken(c) ? 0 : learnable(c);
            int spare = hall.told.lime[c] - hall.moment.cracks[c];
            // Sets come by their bits: of like ones the first stays.
            for (int set = 1; set <= fit; set++) {
                int size = Integer.bitCount(set);
                if ((set & ~fit) != 0 || size < most || !isWhole(c, set) || cracksOf(set) > spare) {
                    continue;
                }
                int nights = nightsOf(set);
                if (nights <= n && (size > most || nights < fewest)) {
                    best = set;
                    most = size;
                    fewest = nights;
                }
            }
            return best;
        }

        private boolean isWhole(int c, int set) {
            int known = set | hall.moment.can[c];
            for (int t = 0; t < hall.told.things; t++) {
                if (has(set, t) && (hall.told.needs[t] & ~known) != 0) {
                    return false;
                }
            }
            return true;
        }
    }

    /** OWN: for each CAST and each set of THINGS that are taken, the most from there on. */
    private static final class Owners {
        private static final int SETS = 1 << THINGS;

        private final Hall hall;
        private final int[] most = new int[(CASTS + 1) * SETS];
        private final int[] may = new int[CASTS];

        Owners(Hall hall) {
            this.hall = hall;
        }

        void weigh() {
            int casts = hall.told.casts;
            int sets = 1 << hall.told.things;
            for (int taken = 0; taken < sets; taken++) {
                most[casts * SETS + taken] = 0;
            }
            for (int c = casts - 1; c >= 0; c--) {
                may[c] = hall.allItMay(c);
                for (int taken = 0; taken < sets; taken++) {
                    most[c * SETS + taken] = mostFrom(c, taken);
                }
            }
        }

        private int mostFrom(int c, int taken) {
            int behind = (c + 1) * SETS;
            int found = most[behind + taken];
            int free = may[c] & ~taken;
            for (int t = 0; t < hall.told.things; t++) {
                if (has(free, t)) {
                    found = Math.max(found, 1 + most[behind + (taken | 1 << t)]);
                }
            }
            return found;
        }

        int mostSet() {
            return most[0];
        }

        int thingOf(int c) {
            int taken = 0;
            int found = NONE;
            for (int i = 0; i <= c; i++) {
                found = firstOf(i, taken);
                if (found != NONE) {
                    taken |= 1 << found;
                }
            }
            return found;
        }

        private int firstOf(int c, int taken) {
            int free = may[c] & ~taken;
            int due = most[c * SETS + taken];
            for (int t = 0; t < hall.told.things; t++) {
                if (has(free, t) && 1 + most[(c + 1) * SETS + (taken | 1 << t)] == due) {
                    return t;
                }
            }
            return NONE;
        }
    }

    /** HEARD of an unknown CAST: which it may be, and what to ask next. */
    private static final class Hearsay {
        static final int MOST = 6;

        private final Hall hall;
        private final int[] things = new int[MOST];
        private final int[] cans = new int[MOST];
        int held;

        Hearsay(Hall hall) {
            this.hall = hall;
        }

        void add(int t, int can) {
            things[held] = t;
            cans[held] = can;
            held++;
        }

        int suspects() {
            int left = (1 << hall.told.casts) - 1;
            for (int i = 0; i < held; i++) {
                int able = hall.whoCan(things[i]);
                left &= cans[i] == 1 ? able : ~able;
            }
            return left;
        }

        int bestQuestion() {
            int left = suspects();
            int all = Integer.bitCount(left);
            int found = NONE;
            // A THING that parts none leaves all of them: that is never fewer.
            int smallest = all;
            for (int t = 0; t < hall.told.things; t++) {
                int able = Integer.bitCount(left & hall.whoCan(t));
                int greater = Math.max(able, all - able);
                if (greater < smallest) {
                    found = t;
                    smallest = greater;
                }
            }
            return found;
        }
    }

    /** MARK: each KIND's body, which asks the one above it, and THE TRACE that they leave. */
    private static final class Kinds {
        private final Hall hall;
        long traced;

        Kinds(Hall hall) {
            this.hall = hall;
        }

        int asKind(int kind, int c) {
            switch (kind) {
                case 1: return asApollo(c);
                case 2: return asVenus(c);
                case 3: return asThrower(c);
                case 4: return asMuse(c);
                case 5: return asLoan(c);
                default: return asCast(c);
            }
        }

        private int asCast(int c) {
            traced += 1;
            return hall.moment.cracks[c];
        }

        private int asApollo(int c) {
            traced += 10;
            return asCast(c) + Integer.bitCount(hall.moment.can[c]);
        }

        private int asVenus(int c) {
            traced += 100;
            return asCast(c) - Integer.bitCount(hall.moment.lacks[c]);
        }

        private int asThrower(int c) {
            traced += 1000;
            return asApollo(c) * 2;
        }

        private int asMuse(int c) {
            traced += 10000;
            return asVenus(c) + c;
        }

        private int asLoan(int c) {
            traced += 100000;
            return asCast(c) + hall.moment.night;
        }
    }
}
