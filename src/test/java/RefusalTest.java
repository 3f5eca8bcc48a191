/**
 * Every number of every call at its limits, on both sides: what is not as told is refused as BAD, ahead of NO and FULL,
 * counts once by STATUS, and changes nothing else; what is as told is not refused as BAD.
 */
public final class RefusalTest {
    private static final Due due = new Due("RefusalTest");
    private static final int BAD = CrowMiles.BAD, NO = CrowMiles.NO, FULL = CrowMiles.FULL;
    private static final int BAD_OF_LIST = -10, BAD_OF_STATUS = -1;
    private static final int MIN = Integer.MIN_VALUE, MAX = Integer.MAX_VALUE;

    private interface Call {
        long on(CrowMiles x);
    }

    private interface CallWith {
        long on(CrowMiles x, int v);
    }

    private enum Land {
        EMPTY, SMALL, WHOLE;

        CrowMiles make() {
            switch (this) {
                case EMPTY: return new CrowMiles();
                case SMALL: return Lands.small();
                default: return Lands.full();
            }
        }

        int places() {
            return this == EMPTY ? 0 : this == SMALL ? 3 : 7;
        }

        int crows() {
            return this == EMPTY ? 0 : this == SMALL ? 2 : 3;
        }
    }

    /** What each land looks like where nothing was refused, made once. */
    private static final String[] LOOKS = new String[3];
    private static final int[][] STATUSES = new int[3][3];

    private static Land land;

    public static void main(String[] args) {
        for (Land each : Land.values()) {
            CrowMiles x = each.make();
            for (int reason = 0; reason < 3; reason++) {
                STATUSES[each.ordinal()][reason] = x.status(reason);
            }
            LOOKS[each.ordinal()] = Lands.seen(x);
        }
        for (Land each : Land.values()) {
            land = each;
            numbersOfTheLand();
            numbersOfFlights();
            numbersOfHowFar();
            numbersOfLists();
            numbersOfWhatItIs();
            numbersOfWhatThereIs();
        }
        no();
        full();
        firstOf();
        theSameNumberOfTimes();
        notRefused();
        due.end();
    }

    // ---- how a number is looked at

    private static void refused(String call, Call it, int answer, int reason) {
        CrowMiles x = land.make();
        String told = land + " " + call;
        due.is(told, it.on(x), answer);
        for (int r = 0; r < 3; r++) {
            due.is(told + ", status(" + r + ") behind it", x.status(r), STATUSES[land.ordinal()][r] + (r == reason ? 1 : 0));
        }
        due.same(told + ", all else behind it", Lands.seen(x), LOOKS[land.ordinal()]);
    }

    private static void taken(String call, Call it) {
        CrowMiles x = land.make();
        long answer = it.on(x);
        due.holds(land + " " + call + " is no BAD, answered " + answer, answer != BAD && answer != BAD_OF_LIST);
        due.is(land + " " + call + ", BADs behind it", x.status(0), STATUSES[land.ordinal()][0]);
    }

    /** Both sides of both limits; where nothing is there (high below low) every number is beyond them. */
    private static void limits(String call, int low, int high, CallWith it, int answer) {
        for (int v : new int[] {low - 1, high + 1, MIN, MAX}) {
            refused(call + " with " + v, x -> it.on(x, v), answer, 0);
        }
        for (int v : new int[] {low, low + 1, high - 1, high}) {
            if (v >= low && v <= high) {
                taken(call + " with " + v, x -> it.on(x, v));
            }
        }
    }

    private static void limits(String call, int low, int high, CallWith it) {
        limits(call, low, high, it, BAD);
    }

    /** A number in a list: NONE is the least, and there is no most. */
    private static void number(String call, CallWith it) {
        for (int v : new int[] {-2, -3, MIN}) {
            refused(call + " with " + v, x -> it.on(x, v), BAD_OF_LIST, 0);
        }
        for (int v : new int[] {-1, 0, 1, 5, 6, 7, 99, MAX}) {
            taken(call + " with " + v, x -> it.on(x, v));
        }
    }

    private static void place(String call, CallWith it) {
        limits(call, 0, land.places() - 1, it, BAD);
    }

    private static void crow(String call, CallWith it) {
        limits(call, 0, land.crows() - 1, it, BAD);
    }

    // ---- the numbers of each call

    private static void numbersOfTheLand() {
        due.says("A PLACE: its number. BAD; FULL: 7.");
        limits("place(v, 0, 0)", 0, 5, (x, v) -> x.place(v, 0, 0));
        limits("place(0, v, 0)", 0, 9, (x, v) -> x.place(0, v, 0));
        limits("place(0, 0, v)", 0, 9, (x, v) -> x.place(0, 0, v));
        due.says("A CROW at a PLACE: her number. BAD; FULL: 3.");
        place("crow(0, v)", (x, v) -> x.crow(0, v));
        if (land.places() > 0) {
            limits("crow(v, 0)", 0, 5, (x, v) -> x.crow(v, 0));
        }
        due.says("A byte (0 .. 127) comes behind THE TEXT: how many it has. BAD; FULL.");
        limits("type(v)", 0, 127, (x, v) -> x.type(v));
        due.says("THE TEXT is empty: how many it had.");
        taken("clear()", x -> x.clear());
        due.says("All as at first (but for IMAGES, THE TEXT, THE FRACTION, STATUS): how many PLACES there were.");
        taken("country()", x -> x.country());
    }

    private static void numbersOfFlights() {
        due.says("A FLIGHT: how FAR it was. BAD; NO: she is there, HOUR 9999.");
        crow("flies(v, 0)", (x, v) -> x.flies(v, 0));
        place("flies(0, v)", (x, v) -> x.flies(0, v));
        due.says("A REST (the HOUR 9999 at most): how TIRED she was. BAD.");
        crow("rests(v)", (x, v) -> x.rests(v));
        due.says("n HOURS go by (1 .. 99; together one that may be undone; 9999 stays): the HOUR. BAD.");
        limits("hours(v)", 1, 99, (x, v) -> x.hours(v));
        due.says("Of a CROW: KIND (0), PLACE (1), TIRED (2). BAD.");
        crow("of(v, 0)", (x, v) -> x.of(v, 0));
        due.says("Of a PLACE: KIND (0), X (1), Y (2). BAD.");
        place("about(v, 0)", (x, v) -> x.about(v, 0));
        if (land.crows() > 0) {
            limits("of(0, v)", 0, 2, (x, v) -> x.of(0, v));
            limits("about(0, v)", 0, 2, (x, v) -> x.about(0, v));
        }
    }

    private static void numbersOfHowFar() {
        due.says("STRAIGHT. BAD.");
        place("straight(v, 0)", (x, v) -> x.straight(v, 0));
        place("straight(0, v)", (x, v) -> x.straight(0, v));
        due.says("FAR. BAD.");
        crow("far(v, 0, 0)", (x, v) -> x.far(v, 0, 0));
        place("far(0, v, 0)", (x, v) -> x.far(0, v, 0));
        place("far(0, 0, v)", (x, v) -> x.far(0, 0, v));
        due.says("LATE: the hour (0), how FAR (1). BAD.");
        crow("late(v, 0, 0, 0)", (x, v) -> x.late(v, 0, 0, 0));
        place("late(0, v, 0, 0)", (x, v) -> x.late(0, v, 0, 0));
        place("late(0, 0, v, 0)", (x, v) -> x.late(0, 0, v, 0));
        if (land.crows() > 0) {
            limits("late(0, 0, 1, v)", 0, 1, (x, v) -> x.late(0, 0, 1, v));
        }
        due.says("STANDARD. NONE. BAD.");
        place("standard(v, 0)", (x, v) -> x.standard(v, 0));
        place("standard(0, v)", (x, v) -> x.standard(0, v));
        due.says("BOOK: 100 a and 10 b (0), the length (1). BAD; NO: there are not so many.");
        limits("book(0, v)", 0, 1, (x, v) -> x.book(0, v));
        for (int v : new int[] {-1, -2, MIN}) {
            refused("book(" + v + ", 0)", x -> x.book(v, 0), BAD, 0);
        }
        for (int v : new int[] {0, 1, 11, 12, 13, MAX}) {
            taken("book(" + v + ", 0)", x -> x.book(v, 0));
        }
    }

    private static void numbersOfLists() {
        due.says("WAY: how much (k = NONE), the k-th PLACE. -5: not so many. BAD: -10.");
        limits("way(v, 0, 0, -1)", 0, land.crows() - 1, (x, v) -> x.way(v, 0, 0, -1), BAD_OF_LIST);
        limits("way(0, v, 0, -1)", 0, land.places() - 1, (x, v) -> x.way(0, v, 0, -1), BAD_OF_LIST);
        limits("way(0, 0, v, -1)", 0, land.places() - 1, (x, v) -> x.way(0, 0, v, -1), BAD_OF_LIST);
        due.says("ROUND: how much (k = NONE; one PLACE: 0), the k-th PLACE. -5: not so many. BAD: -10.");
        limits("round(v, -1)", 0, land.crows() - 1, (x, v) -> x.round(v, -1), BAD_OF_LIST);
        due.says("CLASH: how many (k = NONE), the k-th. -5: not so many. BAD: -10.");
        limits("clash(v, -1)", 0, land.crows() - 1, (x, v) -> x.clash(v, -1), BAD_OF_LIST);
        due.says("OWNER: how many (k = NONE), the k-th. -5: not so many. BAD: -10.");
        limits("owner(v, -1)", 0, land.crows() - 1, (x, v) -> x.owner(v, -1), BAD_OF_LIST);
        if (land.crows() > 0) {
            due.says("-5: not so many. BAD: -10.");
            number("way(0, 0, 1, v)", (x, v) -> x.way(0, 0, 1, v));
            number("round(0, v)", (x, v) -> x.round(0, v));
            number("clash(0, v)", (x, v) -> x.clash(0, v));
            number("owner(0, v)", (x, v) -> x.owner(0, v));
        }
    }

    private static void numbersOfWhatItIs() {
        due.says("A NOTE: how many there are. BAD; FULL: 6.");
        place("note(v, 0, 0, 0)", (x, v) -> x.note(v, 0, 0, 0));
        if (land.places() > 0) {
            limits("note(0, v, 0, 0)", 0, 500, (x, v) -> x.note(0, v, 0, 0));
            limits("note(0, 0, v, 0)", 0, 23, (x, v) -> x.note(0, 0, v, 0));
            limits("note(0, 0, 0, v)", 0, 900, (x, v) -> x.note(0, 0, 0, v));
        }
        due.says("A MARK: how many there are. BAD; FULL: 6.");
        crow("mark(v, 0, 0, 0, 0)", (x, v) -> x.mark(v, 0, 0, 0, 0));
        if (land.crows() > 0) {
            limits("mark(0, v, 0, 0, 0)", 0, 18, (x, v) -> x.mark(0, v, 0, 0, 0));
            limits("mark(0, 0, v, 0, 0)", 0, 23, (x, v) -> x.mark(0, 0, v, 0, 0));
            limits("mark(0, 0, 0, v, 0)", 0, 99, (x, v) -> x.mark(0, 0, 0, v, 0));
            limits("mark(0, 0, 0, 0, v)", 0, 500, (x, v) -> x.mark(0, 0, 0, 0, v));
        }
        due.says("No NOTES (0), MARKS (1), DEEDS (2; one that may be undone): how many there were. BAD.");
        limits("forget(v)", 0, 2, (x, v) -> x.forget(v));
        due.says("IS, as bits. BAD.");
        place("is(v)", (x, v) -> x.is(v));
        due.says("LOOK. NONE. BAD.");
        place("look(v)", (x, v) -> x.look(v));
        due.says("WHAT, as bits. BAD.");
        crow("kinds(v)", (x, v) -> x.kinds(v));
        due.says("ASK. NONE. BAD.");
        crow("ask(v)", (x, v) -> x.ask(v));
        due.says("WIND is THE FRACTION: 1. BAD.");
        crow("wind(v, 0, 0, 0)", (x, v) -> x.wind(v, 0, 0, 0));
        place("wind(0, v, 0, 0)", (x, v) -> x.wind(0, v, 0, 0));
        place("wind(0, 0, v, 0)", (x, v) -> x.wind(0, 0, v, 0));
        if (land.crows() > 0) {
            limits("wind(0, 0, 1, v)", 0, 10, (x, v) -> x.wind(0, 0, 1, v));
        }
        due.says("YEARS. BAD.");
        limits("years(v, 60)", 0, 999999, (x, v) -> x.years(v, 60));
        limits("years(0, v)", 0, 60, (x, v) -> x.years(0, v));
    }

    private static void numbersOfWhatThereIs() {
        due.says("THE FRACTION: above (0), below (1). BAD.");
        limits("part(v)", 0, 1, (x, v) -> x.part(v));
        due.says("An IMAGE is kept: 1. BAD.");
        limits("image(v)", 0, 1, (x, v) -> x.image(v));
        due.says("It goes on from an IMAGE: 1. BAD; NO: none was kept.");
        limits("from(v)", 0, 1, (x, v) -> x.from(v));
        due.says("STATUS: BAD (0), NO (1), FULL (2). -1: another what (counts as BAD).");
        limits("status(v)", 0, 2, (x, v) -> x.status(v), BAD_OF_STATUS);
        due.says("8 bytes of THE TEXT. BAD.");
        limits("count(v)", 0, 8, (x, v) -> x.count(v));
    }

    // ---- the other reasons

    private static void no() {
        due.says("NO: none may be.");
        land = Land.EMPTY;
        refused("undo()", x -> x.undo(), NO, 1);
        due.says("NO: none was kept.");
        refused("from(0)", x -> x.from(0), NO, 1);
        refused("from(1)", x -> x.from(1), NO, 1);
        land = Land.SMALL;
        refused("from(1)", x -> x.from(1), NO, 1);
        due.says("NO: there are not so many.");
        refused("book(1, 0) of one", x -> x.book(1, 0), NO, 1);
        refused("book(1, 1) of one", x -> x.book(1, 1), NO, 1);
        refused("book(MAX, 1) of one", x -> x.book(MAX, 1), NO, 1);
        land = Land.EMPTY;
        refused("book(0, 0) of none", x -> x.book(0, 0), NO, 1);
        land = Land.WHOLE;
        refused("book(12, 0) of 12", x -> x.book(12, 0), NO, 1);
        due.says("NO: she is there, HOUR 9999.");
        refused("flies(0, 0) at 9999", x -> x.flies(0, 0), NO, 1);
        refused("flies(2, 2) at 9999, where she is", x -> x.flies(2, 2), NO, 1);
        refused("flies(2, 6) at 9999", x -> x.flies(2, 6), NO, 1);
        land = Land.SMALL;
        refused("flies(0, 1), where she is", x -> x.flies(0, 1), NO, 1);
    }

    private static void full() {
        land = Land.WHOLE;
        due.says("A PLACE: its number. BAD; FULL: 7.");
        refused("place(5, 9, 9)", x -> x.place(5, 9, 9), FULL, 2);
        due.says("A CROW at a PLACE: her number. BAD; FULL: 3.");
        refused("crow(5, 6)", x -> x.crow(5, 6), FULL, 2);
        due.says("A byte (0 .. 127) comes behind THE TEXT: how many it has. BAD; FULL.");
        refused("type(32)", x -> x.type(32), FULL, 2);
        due.says("A NOTE: how many there are. BAD; FULL: 6.");
        refused("note(0, 0, 0, 0)", x -> x.note(0, 0, 0, 0), FULL, 2);
        due.says("A MARK: how many there are. BAD; FULL: 6.");
        refused("mark(0, 0, 0, 0, 0)", x -> x.mark(0, 0, 0, 0, 0), FULL, 2);
    }

    private static void firstOf() {
        due.says("Refused, changing nothing but STATUS, the first of: BAD -2 a number is not as told; NO -3 as told; FULL -4");
        land = Land.WHOLE;
        refused("place(6, 0, 0)", x -> x.place(6, 0, 0), BAD, 0);
        refused("place(0, 0, 10)", x -> x.place(0, 0, 10), BAD, 0);
        refused("crow(6, 0)", x -> x.crow(6, 0), BAD, 0);
        refused("crow(0, 7)", x -> x.crow(0, 7), BAD, 0);
        refused("type(128)", x -> x.type(128), BAD, 0);
        refused("note(0, 0, 0, 901)", x -> x.note(0, 0, 0, 901), BAD, 0);
        refused("mark(0, 0, 0, 0, 501)", x -> x.mark(0, 0, 0, 0, 501), BAD, 0);
        refused("flies(3, 0) at 9999", x -> x.flies(3, 0), BAD, 0);
        refused("flies(0, 7) at 9999", x -> x.flies(0, 7), BAD, 0);
        refused("book(12, 2)", x -> x.book(12, 2), BAD, 0);
        refused("book(-1, 2)", x -> x.book(-1, 2), BAD, 0);
        land = Land.EMPTY;
        refused("from(2)", x -> x.from(2), BAD, 0);
        refused("book(0, 2)", x -> x.book(0, 2), BAD, 0);
        refused("mark(-1, -1, -1, -1, -1), once", x -> x.mark(-1, -1, -1, -1, -1), BAD, 0);
        refused("way(-1, -1, -1, -2), once", x -> x.way(-1, -1, -1, -2), BAD_OF_LIST, 0);
    }

    private static void theSameNumberOfTimes() {
        due.says("STATUS: how many calls were refused as BAD, NO, FULL (each answer told so below is such a one).");
        CrowMiles x = Lands.full();
        int[] want = {x.status(0), x.status(1), x.status(2)};
        for (int i = 0; i < 9; i++) {
            x.of(3, 0);
            x.flies(0, 2);
            x.book(12, 0);
            x.type(32);
            x.note(0, 0, 0, 0);
            x.crow(0, 0);
        }
        due.is("BADs", x.status(0), want[0] + 9);
        due.is("NOs", x.status(1), want[1] + 18);
        due.is("FULLs", x.status(2), want[2] + 27);
        due.says("(where others are told they count as these)");
        x.way(0, 0, 7, -1);
        x.round(3, -1);
        x.clash(0, -2);
        x.owner(-1, 0);
        due.is("BADs behind four -10", x.status(0), want[0] + 13);
        due.is("another what", x.status(3), -1);
        due.is("BADs behind it", x.status(0), want[0] + 14);
        due.is("NOs behind it", x.status(1), want[1] + 18);
        due.is("FULLs behind it", x.status(2), want[2] + 27);
    }

    private static void notRefused() {
        due.says("STATUS: how many calls were refused as BAD, NO, FULL (each answer told so below is such a one).");
        CrowMiles x = Due.told("country;place 0 0 0;crow 0 0;");
        due.is("way, -5", x.way(0, 0, 0, 0), -5);
        due.is("round, -5", x.round(0, 0), -5);
        due.is("clash, -5", x.clash(0, 0), -5);
        due.is("owner, -5", x.owner(0, 0), -5);
        due.is("standard, NONE", x.standard(0, 0), CrowMiles.NONE);
        x.note(0, 0, 0, 900);
        due.is("look, NONE", x.look(0), CrowMiles.NONE);
        x.mark(0, 0, 0, 0, 500);
        due.is("ask, NONE", x.ask(0), CrowMiles.NONE);
        due.is("read, a FAULT", Due.read(x, ""), -10);
        for (int reason = 0; reason < 3; reason++) {
            due.is("status(" + reason + ")", x.status(reason), 0);
        }
    }
}
