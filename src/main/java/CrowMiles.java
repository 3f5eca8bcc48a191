/**
 * A country measured by crows, as ../shared/DOC.md tells it. Everything an object ever needs is made
 * in its constructor, because all calls of a run share one small room; no later call makes anything.
 */
public final class CrowMiles {
    public static final int NONE = -1, BAD = -2, NO = -3, FULL = -4;

    private static final int NOT_SO_MANY = -5, BAD_OF_LIST = -10, FAULT_BASE = -10;
    private static final int PLACES = 7, CROWS = 3, KINDS = 6, DEEDS = 12, DEED_PARTS = 3, SIGHTINGS = 6;
    private static final int UNDOS = 8, IMAGES = 2, TEXT_BYTES = 150;
    private static final int LAST_HOUR = 9999, DAY = 24, REST_HOURS = 8, MOST_TIRED = 99;
    private static final int MOST_MADE = 500, MOST_FAR = 900, MOST_STRAIGHT = 18, MOST_LOOK = 60;
    private static final int MOST_HOURS = 99, MOST_YEARS = 60, MOST_SEED = 999999;
    private static final int COUNTS = 9;

    private final Country land = new Country();
    private final Country[] images = new Country[IMAGES];
    private final boolean[] kept = new boolean[IMAGES];
    private final byte[] text = new byte[TEXT_BYTES];
    private int textLength;
    private int above;
    private int below = 1;
    private int bads;
    private int nos;
    private int fulls;
    private final Roads roads = new Roads();
    private final Reader reader = new Reader();
    private final Doings traveller = new Doings();
    private final Questions questions = new Questions();

    public CrowMiles() {
        for (int i = 0; i < IMAGES; i++) {
            images[i] = new Country();
        }
    }

    // ---- a country

    public int country() {
        int before = land.places;
        land.empty();
        return before;
    }

    public int place(int kind, int x, int y) {
        if (!isKind(kind) || !within(x, 0, 9) || !within(y, 0, 9)) {
            return refuseBad();
        }
        if (land.places >= PLACES) {
            return refuseFull();
        }
        return land.addPlace(kind, x, y);
    }

    public int crow(int kind, int p) {
        if (!isKind(kind) || !land.hasPlace(p)) {
            return refuseBad();
        }
        if (land.crows >= CROWS) {
            return refuseFull();
        }
        return land.addCrow(kind, p);
    }

    public int type(int c) {
        if (!within(c, 0, 127)) {
            return refuseBad();
        }
        if (textLength >= TEXT_BYTES) {
            return refuseFull();
        }
        text[textLength] = (byte) c;
        textLength++;
        return textLength;
    }

    public int clear() {
        int before = textLength;
        textLength = 0;
        return before;
    }

    public int read() {
        int items = reader.readAll(text, textLength);
        if (items >= 0) {
            land.become(reader.draft);
        }
        return items;
    }

    // ---- flights

    public int flies(int c, int p) {
        if (!land.hasCrow(c) || !land.hasPlace(p)) {
            return refuseBad();
        }
        if (land.now.at[c] == p || land.now.hour >= LAST_HOUR) {
            return refuseNo();
        }
        land.remember();
        return land.fly(land.now, c, p);
    }

    public int rests(int c) {
        if (!land.hasCrow(c)) {
            return refuseBad();
        }
        land.remember();
        int before = land.now.tired[c];
        land.now.sleep(c);
        land.now.stopTheClock();
        return before;
    }

    public int hours(int n) {
        if (!within(n, 1, MOST_HOURS)) {
            return refuseBad();
        }
        land.remember();
        land.now.hour += n;
        land.now.stopTheClock();
        return land.now.hour;
    }

    public int undo() {
        if (land.pasts <= 0) {
            return refuseNo();
        }
        land.goBack();
        return land.now.hour;
    }

    public int of(int c, int what) {
        if (!land.hasCrow(c) || !within(what, 0, 2)) {
            return refuseBad();
        }
        return land.aboutCrow(c, what);
    }

    public int about(int p, int what) {
        if (!land.hasPlace(p) || !within(what, 0, 2)) {
            return refuseBad();
        }
        return land.aboutPlace(p, what);
    }

    // ---- how far

    public int straight(int a, int b) {
        if (!land.hasPlace(a) || !land.hasPlace(b)) {
            return refuseBad();
        }
        return land.line(a, b);
    }

    public int far(int c, int a, int b) {
        if (!isTrip(c, a, b)) {
            return refuseBad();
        }
        return land.farNow(c, a, b);
    }

    public int way(int c, int a, int b, int k) {
        if (!isTrip(c, a, b) || k < NONE) {
            return refuseList();
        }
        roads.measure(land, c);
        return roads.answer(k, roads.findWay(a, b));
    }

    public int round(int c, int k) {
        if (!land.hasCrow(c) || k < NONE) {
            return refuseList();
        }
        roads.measure(land, c);
        return roads.answer(k, roads.findRound());
    }

    public int clash(int c, int k) {
        if (!land.hasCrow(c) || k < NONE) {
            return refuseList();
        }
        roads.measure(land, c);
        return roads.answer(k, roads.findClashes());
    }

    public int late(int c, int a, int b, int what) {
        if (!isTrip(c, a, b) || !within(what, 0, 1)) {
            return refuseBad();
        }
        int hour = 0;
        int farthest = land.farAt(c, a, b, land.now.tired[c], 0);
        for (int t = 1; t < DAY; t++) {
            int far = land.farAt(c, a, b, land.now.tired[c], t);
            if (far > farthest) {
                hour = t;
                farthest = far;
            }
        }
        return what == 0 ? hour : farthest;
    }

    public int standard(int a, int b) {
        if (!land.hasPlace(a) || !land.hasPlace(b)) {
            return refuseBad();
        }
        return land.now.middleLength(a, b);
    }

    public int book(int k, int what) {
        if (k < 0 || !within(what, 0, 1)) {
            return refuseBad();
        }
        if (k >= land.now.deeds) {
            return refuseNo();
        }
        return what == 0 ? land.now.deedEnds(k) : land.now.deedLength(k);
    }

    // ---- what it is

    public int note(int p, int m, int t, int x) {
        if (!land.hasPlace(p) || !within(m, 0, MOST_MADE) || !isDayHour(t) || !within(x, 0, MOST_FAR)) {
            return refuseBad();
        }
        if (land.notes.isFull()) {
            return refuseFull();
        }
        return land.notes.add(p, m, t, 0, x);
    }

    public int mark(int c, int d, int t, int n, int x) {
        if (!land.hasCrow(c) || !within(d, 0, MOST_STRAIGHT) || !isDayHour(t)
                || !within(n, 0, MOST_TIRED) || !within(x, 0, MOST_MADE)) {
            return refuseBad();
        }
        if (land.marks.isFull()) {
            return refuseFull();
        }
        return land.marks.add(c, d, t, n, x);
    }

    public int forget(int what) {
        if (what == 0) {
            return land.notes.drop();
        }
        if (what == 1) {
            return land.marks.drop();
        }
        if (what == 2) {
            land.remember();
            return land.now.dropDeeds();
        }
        return refuseBad();
    }

    public int is(int p) {
        if (!land.hasPlace(p)) {
            return refuseBad();
        }
        return land.notes.kindsLeft(p);
    }

    public int look(int p) {
        if (!land.hasPlace(p)) {
            return refuseBad();
        }
        return questions.best(false, land.notes.kindsLeft(p), MOST_LOOK, 0);
    }

    public int kinds(int c) {
        if (!land.hasCrow(c)) {
            return refuseBad();
        }
        return land.marks.kindsLeft(c);
    }

    public int ask(int c) {
        if (!land.hasCrow(c)) {
            return refuseBad();
        }
        return questions.best(true, land.marks.kindsLeft(c), MOST_STRAIGHT, land.now.tired[c]);
    }

    public int owner(int c, int k) {
        if (!land.hasCrow(c) || k < NONE) {
            return refuseList();
        }
        roads.measure(land, c);
        return roads.answer(k, roads.findRestingPairs(land.now.at[c]));
    }

    public int wind(int c, int a, int b, int odds) {
        if (!isTrip(c, a, b) || !within(odds, 0, 10)) {
            return refuseBad();
        }
        int calm = land.farNow(c, a, b);
        int blown = calm + calm / 2;
        keepFraction(odds * blown + (10 - odds) * calm, 10);
        return 1;
    }

    public int years(int seed, int n) {
        if (!within(seed, 0, MOST_SEED) || !within(n, 0, MOST_YEARS)) {
            return refuseBad();
        }
        traveller.become(land.now);
        long x = seed;
        int together = 0;
        for (int i = 0; i < n; i++) {
            x = (x * 1103515245L + 12345L) % 2147483648L;
            together += travel((int) (x / 65536L % 3L), (int) (x / 1048576L % 7L));
        }
        return together;
    }

    // ---- what there is

    public long part(int what) {
        if (what == 0) {
            return above;
        }
        return what == 1 ? below : refuseBad();
    }

    public int image(int i) {
        if (!within(i, 0, IMAGES - 1)) {
            return refuseBad();
        }
        images[i].become(land);
        kept[i] = true;
        return 1;
    }

    public int from(int i) {
        if (!within(i, 0, IMAGES - 1)) {
            return refuseBad();
        }
        if (!kept[i]) {
            return refuseNo();
        }
        land.become(images[i]);
        return 1;
    }

    public int status(int what) {
        switch (what) {
            case 0: return bads;
            case 1: return nos;
            case 2: return fulls;
            default:
                refuseBad();
                return -1;
        }
    }

    public int count(int what) {
        return within(what, 0, COUNTS - 1) ? amount(what) : refuseBad();
    }

    public long digest() {
        long h = 1753L;
        for (int what = 0; what < COUNTS; what++) {
            h = 31L * h + amount(what);
        }
        h = land.mixInto(h);
        h = 31L * h + above;
        return 31L * h + below;
    }

    // ---- what the calls share

    private static boolean within(int value, int low, int high) {
        return value >= low && value <= high;
    }

    private static boolean isKind(int kind) {
        return within(kind, 0, KINDS - 1);
    }

    private static boolean isDayHour(int t) {
        return within(t, 0, DAY - 1);
    }

    private boolean isTrip(int c, int a, int b) {
        return land.hasCrow(c) && land.hasPlace(a) && land.hasPlace(b);
    }

    private int refuseBad() {
        bads++;
        return BAD;
    }

    private int refuseList() {
        bads++;
        return BAD_OF_LIST;
    }

    private int refuseNo() {
        nos++;
        return NO;
    }

    private int refuseFull() {
        fulls++;
        return FULL;
    }

    private int amount(int what) {
        switch (what) {
            case 0: return land.places;
            case 1: return land.crows;
            case 2: return land.now.hour;
            case 3: return land.now.deeds;
            case 4: return land.now.lengths();
            case 5: return land.notes.size;
            case 6: return land.marks.size;
            case 7: return land.pasts;
            default: return textLength;
        }
    }

    private void keepFraction(int top, int bottom) {
        int a = top;
        int b = bottom;
        // Euclid's steps more than halve every second number, so 64 are plenty for an int
        for (int i = 0; i < 64 && b != 0; i++) {
            int rest = a % b;
            a = b;
            b = rest;
        }
        int divisor = a == 0 ? 1 : a;
        above = top / divisor;
        below = bottom / divisor;
    }

    private int travel(int c, int p) {
        if (c >= land.crows) {
            traveller.hour++;
            return 0;
        }
        if (p < land.places && p != traveller.at[c]) {
            return land.fly(traveller, c, p);
        }
        traveller.sleep(c);
        return 0;
    }

    /** What the kinds say. What a kind stands under is worked out first, the kind itself behind it. */
    private static final class Kinds {
        private Kinds() {
        }

        static int made(int kind, int d, int t, int n) {
            int plain = 10 * d;
            int tired = plain + 3 * (n < 9 ? n : 9);
            int certified = plain - d;
            switch (kind) {
                case 1: return t >= 12 ? plain + 5 : plain;
                case 2: return tired;
                case 3: return n >= 3 ? 2 * tired : tired;
                case 4: return certified;
                case 5: return certified < 1 ? 1 : certified;
                default: return plain;
            }
        }

        static int reach(int kind, int m, int t) {
            int elm = m - 7 < 1 ? 1 : m - 7;
            int sheep = m + 4 + t % 3;
            int tens = m / 10 * 10;
            switch (kind) {
                case 1: return elm;
                case 2: return sheep;
                case 3: return sheep + sheep / 4;
                case 4: return t % 2 == 0 ? (elm + 1) / 2 : elm;
                case 5: return tens < 10 ? 10 : tens;
                default: return m;
            }
        }

        /** Crows by what they make of v, places by how far it is if v was made: one question to both. */
        static int told(boolean ofCrows, int kind, int v, int t, int n) {
            return ofCrows ? made(kind, v, t, n) : reach(kind, v, t);
        }
    }

    /** All that undoing brings back, apart from the rest, so that one copy is one step back. */
    private static final class Doings {
        final int[] at = new int[CROWS];
        final int[] tired = new int[CROWS];
        private final int[] deedRows = new int[DEEDS * DEED_PARTS];
        int deeds;
        int hour;

        void become(Doings other) {
            System.arraycopy(other.at, 0, at, 0, CROWS);
            System.arraycopy(other.tired, 0, tired, 0, CROWS);
            System.arraycopy(other.deedRows, 0, deedRows, 0, DEEDS * DEED_PARTS);
            deeds = other.deeds;
            hour = other.hour;
        }

        void move(int c, int p, int length) {
            if (deeds >= DEEDS) {
                System.arraycopy(deedRows, DEED_PARTS, deedRows, 0, (DEEDS - 1) * DEED_PARTS);
                deeds = DEEDS - 1;
            }
            int i = deeds * DEED_PARTS;
            deedRows[i] = at[c];
            deedRows[i + 1] = p;
            deedRows[i + 2] = length;
            deeds++;
            at[c] = p;
            tired[c] = Math.min(tired[c] + 1, MOST_TIRED);
            hour++;
        }

        void sleep(int c) {
            tired[c] = 0;
            hour += REST_HOURS;
        }

        /** Apart from what makes hours go by, because years go on beyond the last hour. */
        void stopTheClock() {
            hour = Math.min(hour, LAST_HOUR);
        }

        int dropDeeds() {
            int before = deeds;
            deeds = 0;
            return before;
        }

        int deedEnds(int k) {
            return 100 * deedRows[k * DEED_PARTS] + 10 * deedRows[k * DEED_PARTS + 1];
        }

        int deedLength(int k) {
            return deedRows[k * DEED_PARTS + 2];
        }

        private boolean isDeed(int k, int a, int b) {
            return deedRows[k * DEED_PARTS] == a && deedRows[k * DEED_PARTS + 1] == b;
        }

        int lengths() {
            int sum = 0;
            for (int k = 0; k < deeds; k++) {
                sum += deedLength(k);
            }
            return sum;
        }

        int middleLength(int a, int b) {
            int best = NONE;
            int leastApart = 0;
            for (int k = 0; k < deeds; k++) {
                if (isDeed(k, a, b)) {
                    int length = deedLength(k);
                    int apart = apartFrom(a, b, length);
                    if (best == NONE || apart < leastApart || apart == leastApart && length < best) {
                        best = length;
                        leastApart = apart;
                    }
                }
            }
            return best;
        }

        private int apartFrom(int a, int b, int length) {
            int sum = 0;
            for (int k = 0; k < deeds; k++) {
                if (isDeed(k, a, b)) {
                    sum += Math.abs(deedLength(k) - length);
                }
            }
            return sum;
        }

        long mixDeeds(long start) {
            long h = start;
            for (int i = 0; i < deeds * DEED_PARTS; i++) {
                h = 31L * h + deedRows[i];
            }
            return h;
        }
    }

    /** Notes of places or marks of crows: both tell of one what came of a number at an hour. */
    private static final class Sightings {
        private static final int PARTS = 5;

        private final boolean ofCrows;
        private final int[] rows = new int[SIGHTINGS * PARTS];
        int size;

        Sightings(boolean ofCrows) {
            this.ofCrows = ofCrows;
        }

        void become(Sightings other) {
            System.arraycopy(other.rows, 0, rows, 0, SIGHTINGS * PARTS);
            size = other.size;
        }

        boolean isFull() {
            return size >= SIGHTINGS;
        }

        /** Notes have no n: theirs is 0 and is left out of the digest. */
        int add(int who, int v, int t, int n, int x) {
            if (!isFull()) {
                int i = size * PARTS;
                rows[i] = who;
                rows[i + 1] = v;
                rows[i + 2] = t;
                rows[i + 3] = n;
                rows[i + 4] = x;
                size++;
            }
            return size;
        }

        int drop() {
            int before = size;
            size = 0;
            return before;
        }

        int kindsLeft(int who) {
            int bits = 0;
            for (int kind = 0; kind < KINDS; kind++) {
                if (allow(who, kind)) {
                    bits |= 1 << kind;
                }
            }
            return bits;
        }

        private boolean allow(int who, int kind) {
            for (int i = 0; i < size * PARTS; i += PARTS) {
                if (rows[i] == who
                        && Kinds.told(ofCrows, kind, rows[i + 1], rows[i + 2], rows[i + 3]) != rows[i + 4]) {
                    return false;
                }
            }
            return true;
        }

        long mixInto(long start) {
            long h = start;
            for (int i = 0; i < size * PARTS; i++) {
                if (ofCrows || i % PARTS != 3) {
                    h = 31L * h + rows[i];
                }
            }
            return h;
        }
    }

    /** All that an image keeps. */
    private static final class Country {
        private final int[] placeKind = new int[PLACES];
        private final int[] placeX = new int[PLACES];
        private final int[] placeY = new int[PLACES];
        int places;
        private final int[] crowKind = new int[CROWS];
        int crows;
        final Doings now = new Doings();
        private final Doings[] past = new Doings[UNDOS];
        int pasts;
        final Sightings notes = new Sightings(false);
        final Sightings marks = new Sightings(true);

        Country() {
            for (int i = 0; i < UNDOS; i++) {
                past[i] = new Doings();
            }
        }

        void empty() {
            places = 0;
            crows = 0;
            now.deeds = 0;
            now.hour = 0;
            pasts = 0;
            notes.size = 0;
            marks.size = 0;
        }

        void become(Country other) {
            System.arraycopy(other.placeKind, 0, placeKind, 0, PLACES);
            System.arraycopy(other.placeX, 0, placeX, 0, PLACES);
            System.arraycopy(other.placeY, 0, placeY, 0, PLACES);
            places = other.places;
            System.arraycopy(other.crowKind, 0, crowKind, 0, CROWS);
            crows = other.crows;
            now.become(other.now);
            for (int i = 0; i < UNDOS && i < other.pasts; i++) {
                past[i].become(other.past[i]);
            }
            pasts = other.pasts;
            notes.become(other.notes);
            marks.become(other.marks);
        }

        boolean hasPlace(int p) {
            return p >= 0 && p < places;
        }

        boolean hasCrow(int c) {
            return c >= 0 && c < crows;
        }

        int addPlace(int kind, int x, int y) {
            if (places >= PLACES) {
                return FULL;
            }
            placeKind[places] = kind;
            placeX[places] = x;
            placeY[places] = y;
            places++;
            pasts = 0;
            return places - 1;
        }

        int addCrow(int kind, int p) {
            if (crows >= CROWS) {
                return FULL;
            }
            crowKind[crows] = kind;
            now.at[crows] = p;
            now.tired[crows] = 0;
            crows++;
            pasts = 0;
            return crows - 1;
        }

        int aboutPlace(int p, int what) {
            if (what == 0) {
                return placeKind[p];
            }
            return what == 1 ? placeX[p] : placeY[p];
        }

        int aboutCrow(int c, int what) {
            if (what == 0) {
                return crowKind[c];
            }
            return what == 1 ? now.at[c] : now.tired[c];
        }

        void remember() {
            if (pasts >= UNDOS) {
                dropFirstPast();
            }
            past[pasts].become(now);
            pasts++;
        }

        private void dropFirstPast() {
            // the dropped one is used again as the last, so that nothing new is made
            Doings first = past[0];
            for (int i = 1; i < UNDOS; i++) {
                past[i - 1] = past[i];
            }
            past[UNDOS - 1] = first;
            pasts = UNDOS - 1;
        }

        void goBack() {
            if (pasts > 0) {
                pasts--;
                now.become(past[pasts]);
            }
        }

        int line(int a, int b) {
            return Math.abs(placeX[a] - placeX[b]) + Math.abs(placeY[a] - placeY[b]);
        }

        int farAt(int c, int a, int b, int tired, int hour) {
            if (a == b) {
                return 0;
            }
            int t = hour % DAY;
            return Kinds.reach(placeKind[b], Kinds.made(crowKind[c], line(a, b), t, tired), t);
        }

        int farNow(int c, int a, int b) {
            return farAt(c, a, b, now.tired[c], now.hour);
        }

        /** Whose doings it is, is told, because years are flown by others than those of now. */
        int fly(Doings doings, int c, int p) {
            int length = farAt(c, doings.at[c], p, doings.tired[c], doings.hour);
            doings.move(c, p, length);
            return length;
        }

        long mixInto(long start) {
            long h = start;
            for (int p = 0; p < places; p++) {
                h = mixThree(h, placeKind[p], placeX[p], placeY[p]);
            }
            for (int c = 0; c < crows; c++) {
                h = mixThree(h, crowKind[c], now.at[c], now.tired[c]);
            }
            h = now.mixDeeds(h);
            h = notes.mixInto(h);
            return marks.mixInto(h);
        }

        private static long mixThree(long h, int a, int b, int c) {
            return 31L * (31L * (31L * h + a) + b) + c;
        }
    }

    /** How far it is between all places for one crow, and what is sought in that. */
    private static final class Roads {
        private static final int UNREACHED = 1000000;
        private static final int PART_BASE = 8;

        private final int[] far = new int[PLACES * PLACES];
        private final int[] toEnd = new int[PLACES];
        // place 0 is seen always, so that half of all sets will do
        private final int[] toHome = new int[(1 << PLACES - 1) * PLACES];
        private final int[] found = new int[PLACES * PLACES];
        private int foundCount;
        private int places;

        void measure(Country land, int c) {
            places = land.places;
            foundCount = 0;
            for (int a = 0; a < places; a++) {
                for (int b = 0; b < places; b++) {
                    far[a * PLACES + b] = land.farNow(c, a, b);
                }
            }
        }

        /** What a call with k answers: NONE asks for the whole. */
        int answer(int k, int whole) {
            if (k == NONE) {
                return whole;
            }
            return k >= 0 && k < foundCount ? found[k] : NOT_SO_MANY;
        }

        private void addFound(int value) {
            if (foundCount < PLACES * PLACES) {
                found[foundCount] = value;
                foundCount++;
            }
        }

        int findWay(int a, int b) {
            for (int v = 0; v < places; v++) {
                toEnd[v] = v == b ? 0 : UNREACHED;
            }
            for (int pass = 1; pass < places; pass++) {
                for (int v = 0; v < places; v++) {
                    shortenFrom(v);
                }
            }
            int at = a;
            for (int step = 0; step < places && at != b; step++) {
                at = firstStepFrom(at);
                addFound(at);
            }
            return toEnd[a] / PART_BASE;
        }

        /** One more for each part: as there are 6 at most, a sum of these orders by length, then by parts. */
        private int partCost(int a, int b) {
            return far[a * PLACES + b] * PART_BASE + 1;
        }

        private void shortenFrom(int v) {
            for (int u = 0; u < places; u++) {
                if (u != v) {
                    toEnd[v] = Math.min(toEnd[v], partCost(v, u) + toEnd[u]);
                }
            }
        }

        private int firstStepFrom(int v) {
            for (int u = 0; u < places; u++) {
                if (u != v && partCost(v, u) + toEnd[u] == toEnd[v]) {
                    return u;
                }
            }
            return v;
        }

        int findRound() {
            int all = (1 << places) - 1;
            for (int seen = all; seen > 1; seen -= 2) {
                for (int at = 1; at < places; at++) {
                    if ((seen & 1 << at) != 0) {
                        toHome[(seen >> 1) * PLACES + at] = leastHome(seen, at);
                    }
                }
            }
            int least = leastHome(1, 0);
            int at = 0;
            int seen = 1;
            for (int step = 1; step < places; step++) {
                at = nextOfRound(seen, at);
                seen |= 1 << at;
                addFound(at);
            }
            return least;
        }

        private int leastHome(int seen, int at) {
            int next = nextOfRound(seen, at);
            return next == 0 ? far[at * PLACES] : homeOver(seen, at, next);
        }

        private int homeOver(int seen, int at, int next) {
            return far[at * PLACES + next] + toHome[((seen | 1 << next) >> 1) * PLACES + next];
        }

        /** The first of those over which it is least; 0, if all are seen. */
        private int nextOfRound(int seen, int at) {
            int next = 0;
            for (int p = 1; p < places; p++) {
                if ((seen & 1 << p) == 0 && (next == 0 || homeOver(seen, at, p) < homeOver(seen, at, next))) {
                    next = p;
                }
            }
            return next;
        }

        int findClashes() {
            for (int a = 0; a < places; a++) {
                for (int b = 0; b < places; b++) {
                    if (a != b && hasShortcut(a, b)) {
                        addFound(10 * a + b);
                    }
                }
            }
            return foundCount;
        }

        private boolean hasShortcut(int a, int b) {
            for (int c = 0; c < places; c++) {
                if (c != a && c != b && far[a * PLACES + c] + far[c * PLACES + b] < far[a * PLACES + b]) {
                    return true;
                }
            }
            return false;
        }

        int findRestingPairs(int start) {
            for (int i = 0; i < places; i++) {
                for (int j = 0; j < places; j++) {
                    if (i != start && j != start && isResting(start, i, j)) {
                        addFound(10 * i + j);
                    }
                }
            }
            return foundCount;
        }

        private boolean isResting(int start, int i, int j) {
            for (int other = 0; other < places; other++) {
                if (other != start && (surveyorGets(start, other, j) > surveyorGets(start, i, j)
                        || ownerGets(start, i, other) > ownerGets(start, i, j))) {
                    return false;
                }
            }
            return true;
        }

        private int surveyorGets(int start, int i, int j) {
            return far[start * PLACES + i] / 10 - (i == j ? 6 : 0);
        }

        private int ownerGets(int start, int i, int j) {
            return (i == j ? 5 : 0) - far[start * PLACES + j] / 10;
        }
    }

    /** Which question parts best the kinds that are left. */
    private static final class Questions {
        private final int[] values = new int[KINDS];

        int best(boolean ofCrows, int bits, int most, int n) {
            int best = NONE;
            int fewest = KINDS + 1;
            // one alone is the least there can be, so what comes behind it need not be tried
            for (int t = 0; t < DAY && bits != 0 && fewest > 1; t++) {
                for (int v = 0; v <= most && fewest > 1; v++) {
                    for (int kind = 0; kind < KINDS; kind++) {
                        values[kind] = Kinds.told(ofCrows, kind, v, t, n);
                    }
                    int alike = mostAlike(bits);
                    if (alike < fewest) {
                        fewest = alike;
                        best = 100 * t + v;
                    }
                }
            }
            return best;
        }

        private int mostAlike(int bits) {
            int most = 0;
            for (int i = 0; i < KINDS; i++) {
                int alike = 0;
                for (int j = 0; j < KINDS; j++) {
                    if ((bits & 1 << i) != 0 && (bits & 1 << j) != 0 && values[i] == values[j]) {
                        alike++;
                    }
                }
                most = Math.max(most, alike);
            }
            return most;
        }
    }

    /** Reads a text into a draft, so that a fault leaves the country itself as it was. */
    private static final class Reader {
        private static final int END = 0, WORD = 1, NUMBER = 2, STOP = 3, WRONG = 4;

        final Country draft = new Country();
        private byte[] bytes = new byte[0];
        private int length;
        private int next;
        private int token;
        private int start;
        private int value;

        /** How many items there are, or the fault, which is always where the last token began. */
        int readAll(byte[] text, int textLength) {
            bytes = text;
            length = Math.min(textLength, text.length);
            next = 0;
            draft.empty();
            int items = 0;
            takeToken();
            while (token != END && items <= TEXT_BYTES) {
                if (!takeItem(items)) {
                    return FAULT_BASE - start;
                }
                items++;
                takeToken();
            }
            return items == 0 ? FAULT_BASE - start : items;
        }

        private boolean takeItem(int items) {
            if (token != WORD) {
                return false;
            }
            if (items == 0) {
                return spells("country") && takeStop();
            }
            if (spells("place")) {
                return takePlace();
            }
            if (spells("crow")) {
                return takeCrow();
            }
            if (spells("fly")) {
                return takeFlight();
            }
            if (spells("rest")) {
                return takeRest();
            }
            return spells("hours") && takeHours();
        }

        private boolean takePlace() {
            if (draft.places >= PLACES || !takeNumber(0, KINDS - 1)) {
                return false;
            }
            int kind = value;
            if (!takeNumber(0, 9)) {
                return false;
            }
            int x = value;
            if (!takeNumber(0, 9)) {
                return false;
            }
            draft.addPlace(kind, x, value);
            return takeStop();
        }

        private boolean takeCrow() {
            if (draft.crows >= CROWS || !takeNumber(0, KINDS - 1)) {
                return false;
            }
            int kind = value;
            if (!takeNumber(0, draft.places - 1)) {
                return false;
            }
            draft.addCrow(kind, value);
            return takeStop();
        }

        private boolean takeFlight() {
            if (!takeNumber(0, draft.crows - 1)) {
                return false;
            }
            int c = value;
            if (!takeNumber(0, draft.places - 1) || draft.now.at[c] == value) {
                return false;
            }
            draft.fly(draft.now, c, value);
            return takeStop();
        }

        private boolean takeRest() {
            if (!takeNumber(0, draft.crows - 1)) {
                return false;
            }
            draft.now.sleep(value);
            return takeStop();
        }

        private boolean takeHours() {
            if (!takeNumber(1, MOST_HOURS)) {
                return false;
            }
            draft.now.hour += value;
            return takeStop();
        }

        private boolean takeStop() {
            takeToken();
            return token == STOP;
        }

        private boolean takeNumber(int low, int high) {
            takeToken();
            return token == NUMBER && value >= low && value <= high;
        }

        private boolean spells(String word) {
            if (next - start != word.length()) {
                return false;
            }
            for (int i = 0; i < word.length(); i++) {
                if (bytes[start + i] != word.charAt(i)) {
                    return false;
                }
            }
            return true;
        }

        private void takeToken() {
            while (next < length && bytes[next] == ' ') {
                next++;
            }
            start = next;
            if (next >= length) {
                token = END;
            } else if (isLetter(bytes[next])) {
                takeLetters();
            } else if (isFigure(bytes[next])) {
                takeFigures();
            } else {
                token = bytes[next] == ';' ? STOP : WRONG;
                next++;
            }
        }

        private void takeLetters() {
            while (next < length && isLetter(bytes[next])) {
                next++;
            }
            token = WORD;
        }

        private void takeFigures() {
            value = 0;
            while (next < length && isFigure(bytes[next])) {
                // a longer run is wrong whatever it says, and would not fit at last
                if (next - start < 2) {
                    value = 10 * value + bytes[next] - '0';
                }
                next++;
            }
            token = next - start <= 2 ? NUMBER : WRONG;
        }

        private static boolean isLetter(int c) {
            return c >= 'a' && c <= 'z';
        }

        private static boolean isFigure(int c) {
            return c >= '0' && c <= '9';
        }
    }
}
