/** How far at its limits, promises 14 to 21 and 29: ways, rounds, clashes, hours, standards, the book, owners. */
public final class ListsEdgeTest {
    private static final Due due = new Due("ListsEdgeTest");
    private static final int NONE = CrowMiles.NONE, NO = CrowMiles.NO;
    private static final int NOT_SO_MANY = -5, MAX = Integer.MAX_VALUE;

    public static void main(String[] args) {
        nothingIsChanged();
        wayOverOthersOrNot();
        wayOfLeastSum();
        wayOfFewestParts();
        wayFirstRising();
        wayEnds();
        round();
        roundFirstRising();
        clashOnlyIfLess();
        clashRising();
        lateFirst();
        lateAtNoDistance();
        lateTiredAsNow();
        standardOfNone();
        standardLeastOfLikeOnes();
        standardOfTheLastTwelve();
        book();
        bookInOrder();
        ownerOfFewPlaces();
        ownerTens();
        ownerRests();
        ownerRising();
        due.end();
    }

    private interface List {
        int at(int k);
    }

    /** What k = NONE answers, each one of the list, and the end of it on both sides. */
    private static void list(String what, int whole, int[] ones, List list) {
        due.is(what + ", k = NONE", list.at(NONE), whole);
        for (int k = 0; k < ones.length; k++) {
            due.is(what + ", k = " + k, list.at(k), ones[k]);
        }
        for (int k : new int[] {ones.length, ones.length + 1, 99, MAX}) {
            due.is(what + ", k = " + k, list.at(k), NOT_SO_MANY);
        }
    }

    private static int[] ones(int... places) {
        return places;
    }

    private static void nothingIsChanged() {
        due.says("(Nothing is changed by these.)");
        CrowMiles x = Lands.small();
        for (int k = -2; k <= 3; k++) {
            x.far(0, 0, 1);
            x.straight(0, 1);
            x.way(0, 0, 1, Math.max(k, -1));
            x.round(0, Math.max(k, -1));
            x.clash(0, Math.max(k, -1));
            x.owner(0, Math.max(k, -1));
            x.late(0, 0, 1, k & 1);
            x.standard(0, 1);
            x.book(0, k & 1);
            x.is(0);
            x.look(0);
            x.kinds(0);
            x.ask(0);
            x.years(7, 60);
            x.count(2);
            x.part(0);
            x.digest();
        }
        due.same("all behind them", Lands.seen(x), Lands.seen(Lands.small()));
    }

    // ---- way

    private static void wayOverOthersOrNot() {
        due.says("WAY from a to b by a CROW, over other PLACES or not, each part as FAR as now");
        CrowMiles one = Due.told("country;place 5 0 0;crow 0 0;");
        list("one PLACE, to itself", 0, ones(), k -> one.way(0, 0, 0, k));
        CrowMiles two = Due.told("country;place 0 0 0;place 5 0 0;crow 0 0;");
        list("two PLACES", 10, ones(1), k -> two.way(0, 0, 1, k));
        list("two PLACES, back", 0, ones(0), k -> two.way(0, 1, 0, k));
        list("two PLACES, to itself", 0, ones(), k -> two.way(0, 1, 1, k));
        // seven elms in a row: six parts of 3 each
        CrowMiles seven = Due.told("country;place 1 0 0;place 1 1 0;place 1 2 0;place 1 3 0;place 1 4 0;place 1 5 0;"
                + "place 1 6 0;crow 0 3;");
        list("seven PLACES", 18, ones(1, 2, 3, 4, 5, 6), k -> seven.way(0, 0, 6, k));
        list("seven PLACES, back", 18, ones(5, 4, 3, 2, 1, 0), k -> seven.way(0, 6, 0, k));
        list("seven PLACES, to itself", 0, ones(), k -> seven.way(0, 6, 6, k));
        // hungry from hour 12: 10 and 5 less 7 a part, or 15 more than ten times at once
        CrowMiles hungry = Due.told("country;place 0 0 0;place 1 1 0;place 0 2 0;crow 1 0;hours 11;");
        list("at hour 11", 13, ones(1, 2), k -> hungry.way(0, 0, 2, k));
        hungry.hours(1);
        list("at hour 12", 23, ones(1, 2), k -> hungry.way(0, 0, 2, k));
    }

    /** A tired one between two fields with an elm on the line: over it 3 n less 7 more than straight on. */
    private static CrowMiles tiredBy(int n) {
        CrowMiles x = Due.told("country;place 0 0 0;place 1 4 0;place 0 9 0;crow 2 0;");
        for (int i = 0; i < n; i++) {
            x.flies(0, 1 - i % 2);
        }
        return x;
    }

    private static void wayOfLeastSum() {
        due.says("the least sum");
        CrowMiles two = tiredBy(2);
        list("TIRED by 2: 39 and 56 over the elm, 96 straight", 95, ones(1, 2), k -> two.way(0, 0, 2, k));
        CrowMiles three = tiredBy(3);
        list("TIRED by 3: 42 and 59 over the elm, 99 straight", 99, ones(2), k -> three.way(0, 0, 2, k));
    }

    private static void wayOfFewestParts() {
        due.says("of like ones the fewest parts");
        CrowMiles fields = Due.told("country;place 0 0 0;place 0 1 0;place 0 2 0;place 0 3 0;place 0 4 0;place 0 5 0;"
                + "place 0 6 0;crow 0 0;");
        list("seven fields in a row", 60, ones(6), k -> fields.way(0, 0, 6, k));
        // hungry at hour 12: to the guildhall 45 cut to 40, from it 55; straight 95
        CrowMiles guild = Due.told("country;place 0 0 0;place 5 4 0;place 0 9 0;crow 1 0;hours 12;");
        list("over a guildhall", 95, ones(2), k -> guild.way(0, 0, 2, k));
        // over both elms, and over a field between them or not: 7 less twice
        CrowMiles elms = Due.told("country;place 0 0 0;place 0 4 0;place 1 3 0;place 1 5 0;place 0 9 0;crow 0 0;");
        list("three parts or four", 76, ones(2, 3, 4), k -> elms.way(0, 0, 4, k));
        CrowMiles nought = Due.told("country;place 0 5 5;place 0 5 5;place 0 5 5;crow 0 0;");
        list("all at one spot", 0, ones(2), k -> nought.way(0, 0, 2, k));
    }

    private static void wayFirstRising() {
        due.says("the k-th PLACE that one comes to on the first such way (PLACES rising)");
        CrowMiles two = Due.told("country;place 0 0 0;place 0 9 0;place 1 5 0;place 1 4 0;crow 0 0;");
        list("both elms", 76, ones(3, 2, 1), k -> two.way(0, 0, 1, k));
        CrowMiles same = Due.told("country;place 0 0 0;place 0 9 0;place 1 4 0;place 1 4 0;place 1 4 0;crow 0 0;");
        list("one of three alike", 83, ones(2, 1), k -> same.way(0, 0, 1, k));
        // elms at 3 and at 6, two of each: of four ways alike the first
        CrowMiles four = Due.told("country;place 0 0 0;place 1 6 0;place 1 3 0;place 1 6 0;place 1 3 0;place 0 9 0;crow 0 0;");
        list("one of four alike", 76, ones(2, 1, 5), k -> four.way(0, 0, 5, k));
        // the elm of the lower number is the one that one comes to later
        CrowMiles back = Due.told("country;place 0 9 0;place 1 6 0;place 1 3 0;place 0 0 0;crow 0 0;");
        list("the other way round", 76, ones(2, 1, 0), k -> back.way(0, 3, 0, k));
    }

    private static void wayEnds() {
        due.says("WAY: how much (k = NONE), the k-th PLACE. -5: not so many. BAD: -10.");
        CrowMiles x = tiredBy(2);
        due.is("k = -2", x.way(0, 0, 2, -2), -10);
        due.is("k = -1", x.way(0, 0, 2, -1), 95);
        due.is("k = 0", x.way(0, 0, 2, 0), 1);
        due.is("k = 1, b itself", x.way(0, 0, 2, 1), 2);
        due.is("k = 2", x.way(0, 0, 2, 2), NOT_SO_MANY);
        due.is("a is b, k = -1", x.way(0, 2, 2, -1), 0);
        due.is("a is b, k = 0", x.way(0, 2, 2, 0), NOT_SO_MANY);
    }

    // ---- round

    private static void round() {
        due.says("ROUND: how much (k = NONE; one PLACE: 0), the k-th PLACE. -5: not so many. BAD: -10.");
        CrowMiles one = Due.told("country;place 5 9 9;crow 5 0;");
        list("one PLACE", 0, ones(), k -> one.round(0, k));
        CrowMiles two = Due.told("country;place 5 0 0;place 1 0 0;crow 0 1;");
        list("two PLACES", 11, ones(1), k -> two.round(0, k));
        CrowMiles three = Due.told("country;place 0 0 0;place 0 9 9;place 0 0 5;crow 0 2;");
        list("three PLACES", 360, ones(1, 2), k -> three.round(0, k));
        CrowMiles seven = Due.told("country;place 0 0 0;place 0 6 0;place 0 5 0;place 0 4 0;place 0 3 0;place 0 2 0;"
                + "place 0 1 0;crow 0 0;");
        list("seven PLACES in a row", 120, ones(1, 2, 3, 4, 5, 6), k -> seven.round(0, k));
        due.is("k = -2", seven.round(0, -2), -10);
    }

    private static void roundFirstRising() {
        due.says("the k-th PLACE behind 0 of the first such round (rising)");
        // fields in a square, numbered across: of the two rounds the one that begins lower
        CrowMiles square = Due.told("country;place 0 0 0;place 0 9 9;place 0 9 0;place 0 0 9;crow 0 0;");
        list("a square", 360, ones(2, 1, 3), k -> square.round(0, k));
        CrowMiles spot = Due.told("country;place 2 0 0;place 2 0 0;place 2 0 0;place 2 0 0;place 2 0 0;place 2 0 0;"
                + "place 2 0 0;crow 0 0;");
        list("all at one spot", 28, ones(1, 2, 3, 4, 5, 6), k -> spot.round(0, k));
        due.says("ROUND by a CROW: from PLACE 0 to all others, each once, and back: the least sum");
        // certified: from the hall at 9 it is 36 on to 5 and 45 home; to the hall it is cut to 80, to 30 from 5
        CrowMiles hall = Due.told("country;place 0 0 0;place 5 9 0;place 0 5 0;crow 4 0;");
        // 0 1 2: 80 + 36 + 45; 0 2 1: 45 + 30 + 81
        list("cut on the way there", 156, ones(2, 1), k -> hall.round(0, k));
    }

    // ---- clash

    private static void clashOnlyIfLess() {
        due.says("CLASH by a CROW: how many pairs 10 a and b (unlike) there are for which some third PLACE c makes "
                + "a to c and c to b together less than a to b");
        CrowMiles one = Due.told("country;place 0 0 0;crow 0 0;");
        list("one PLACE", 0, ones(), k -> one.clash(0, k));
        CrowMiles two = Due.told("country;place 0 0 0;place 1 9 9;crow 0 0;");
        list("two PLACES", 0, ones(), k -> two.clash(0, k));
        CrowMiles as = Due.told("country;place 0 0 0;place 0 4 0;place 0 9 0;crow 0 0;");
        list("as much over a field", 0, ones(), k -> as.clash(0, k));
        CrowMiles guild = Due.told("country;place 0 0 0;place 5 4 0;place 0 9 0;crow 1 0;hours 12;");
        list("as much over a guildhall", 0, ones(), k -> guild.clash(0, k));
        CrowMiles less = tiredBy(2);
        list("1 less over an elm", 2, ones(2, 20), k -> less.clash(0, k));
        CrowMiles more = tiredBy(3);
        list("2 more over an elm", 0, ones(), k -> more.clash(0, k));
        CrowMiles seven = Due.told("country;place 1 0 0;place 1 1 0;place 1 2 0;place 1 3 0;place 1 4 0;place 1 5 0;"
                + "place 1 6 0;crow 0 0;");
        due.is("seven elms", seven.clash(0, NONE), 30);
        due.is("seven elms, the last", seven.clash(0, 29), 64);
        due.is("seven elms, behind it", seven.clash(0, 30), NOT_SO_MANY);
    }

    private static void clashRising() {
        due.says("the k-th (rising)");
        CrowMiles x = Due.told("country;place 0 9 0;place 1 5 0;place 0 0 0;place 0 9 0;crow 0 0;");
        // over the elm from either end of the line to the other, in numbers 0, 3 and 2
        list("pairs", 4, ones(2, 20, 23, 32), k -> x.clash(0, k));
        due.is("k = -2", x.clash(0, -2), -10);
        due.says("some third PLACE c");
        CrowMiles first = Due.told("country;place 1 5 0;place 0 0 0;place 0 9 0;crow 0 0;");
        list("the first of all", 2, ones(12, 21), k -> first.clash(0, k));
        CrowMiles last = Due.told("country;place 0 0 0;place 0 9 0;place 1 5 0;crow 0 0;");
        list("the last of all", 2, ones(1, 10), k -> last.clash(0, k));
    }

    // ---- late

    private static void lateFirst() {
        due.says("LATE from a to b by a CROW: the hour (0 .. 23; TIRED as now) at which it is farthest; of like ones the "
                + "first; how FAR it is then.");
        // the kinds of crow and place; the hour; how far over 7
        int[][] rows = {{0, 0, 0, 70}, {0, 1, 0, 63}, {0, 2, 2, 76}, {0, 3, 2, 95}, {0, 4, 1, 63}, {0, 5, 0, 70},
            {1, 0, 12, 75}, {1, 1, 12, 68}, {1, 2, 14, 81}, {1, 3, 14, 101}, {1, 4, 13, 68}, {1, 5, 0, 70},
            {4, 0, 0, 63}, {4, 3, 2, 86}, {5, 4, 1, 56}, {4, 5, 0, 60}};
        for (int[] r : rows) {
            for (int hour : new int[] {0, 12, 23}) {
                CrowMiles x = new CrowMiles();
                x.place(0, 0, 0);
                x.place(r[1], 3, 4);
                x.crow(r[0], 1);
                Lands.waitTill(x, hour);
                due.is("the hour for " + r[0] + " to " + r[1] + " at " + hour, x.late(0, 0, 1, 0), r[2]);
                due.is("how FAR for " + r[0] + " to " + r[1] + " at " + hour, x.late(0, 0, 1, 1), r[3]);
            }
        }
    }

    private static void lateAtNoDistance() {
        due.says("LATE: the hour (0), how FAR (1). BAD.");
        CrowMiles x = Due.told("country;place 2 0 0;place 2 0 0;crow 1 0;hours 20;");
        due.is("to itself, the hour", x.late(0, 0, 0, 0), 0);
        due.is("to itself, how FAR", x.late(0, 0, 0, 1), 0);
        due.is("to another at the spot, the hour", x.late(0, 0, 1, 0), 14);
        due.is("to another at the spot, how FAR", x.late(0, 0, 1, 1), 11);
    }

    private static void lateTiredAsNow() {
        due.says("TIRED as now");
        CrowMiles x = Due.told("country;place 0 0 0;place 0 3 4;crow 3 0;");
        int[] want = {70, 73, 76, 158, 164, 170, 176, 182, 188, 194, 194};
        for (int n = 0; n < want.length; n++) {
            due.is("TIRED by " + n, x.late(0, 0, 1, 1), want[n]);
            x.flies(0, 1 - n % 2);
        }
    }

    // ---- standard and book

    private static void standardOfNone() {
        due.says("none: no such DEED.");
        CrowMiles x = Due.told("country;place 0 0 0;place 0 0 0;place 0 5 0;crow 0 0;");
        due.is("no DEED", x.standard(0, 1), NONE);
        due.is("to itself", x.standard(0, 0), NONE);
        x.flies(0, 1);
        due.is("one of nought", x.standard(0, 1), 0);
        due.is("the way back", x.standard(1, 0), NONE);
        due.is("from there elsewhere", x.standard(0, 2), NONE);
        due.is("from elsewhere to there", x.standard(2, 1), NONE);
        x.forget(2);
        due.is("forgotten", x.standard(0, 1), NONE);
        x.undo();
        due.is("undone", x.standard(0, 1), 0);
        due.is("no refusal", x.status(0), 0);
    }

    /** A tired one flies there and back: 70, 76, 82, .. there, 73, 79, .. back. */
    private static void standardLeastOfLikeOnes() {
        due.says("of all DEEDS from a to b the length from which all of these are least far together, one of them; "
                + "of like ones the least");
        CrowMiles x = Due.told("country;place 0 0 0;place 0 3 4;crow 2 0;crow 0 0;");
        int[] there = {70, 70, 76, 76};
        int[] back = {73, 73, 79, 79};
        for (int i = 0; i < 4; i++) {
            x.flies(0, 1);
            due.is("of " + (i + 1) + " there", x.standard(0, 1), there[i]);
            x.flies(0, 0);
            due.is("of " + (i + 1) + " back", x.standard(1, 0), back[i]);
        }
        x.flies(1, 1);
        due.is("70 70 76 82 88", x.standard(0, 1), 76);
        x.flies(1, 0);
        x.flies(1, 1);
        due.is("70 70 70 76 82 88: of 70 and 76 the least", x.standard(0, 1), 70);
    }

    private static void standardOfTheLastTwelve() {
        due.says("12 at most: then the first is forgotten");
        CrowMiles x = Due.told("country;place 0 0 0;place 0 3 4;place 0 9 9;crow 0 0;crow 0 2;");
        x.flies(0, 1);
        x.flies(0, 0);
        for (int i = 0; i < 10; i++) {
            x.flies(1, i % 2 == 0 ? 0 : 2);
        }
        due.is("12 DEEDS", x.standard(0, 1), 70);
        x.flies(1, 0);
        due.is("the 13th", x.standard(0, 1), NONE);
        due.is("the second is there", x.standard(1, 0), 70);
        x.undo();
        due.is("undone", x.standard(0, 1), 70);
    }

    private static void book() {
        due.says("BOOK: the k-th DEED, as it came: 100 a and 10 b; its length.");
        CrowMiles x = Due.told("country;place 0 0 0;place 0 1 0;place 0 2 0;place 0 3 0;place 0 4 0;place 0 5 0;"
                + "place 0 6 0;crow 0 0;");
        due.is("none", x.book(0, 0), NO);
        x.flies(0, 6);
        due.is("0 to 6", x.book(0, 0), 60);
        due.is("its length", x.book(0, 1), 60);
        due.is("no second", x.book(1, 0), NO);
        x.flies(0, 5);
        due.is("6 to 5", x.book(1, 0), 650);
        due.is("its length", x.book(1, 1), 10);
        due.is("no third", x.book(2, 1), NO);
        for (int i = 0; i < 10; i++) {
            due.is("no DEED " + x.count(3), x.book(x.count(3), 0), NO);
            x.flies(0, i % 2 == 0 ? 0 : 5);
            due.is("the last", x.book(x.count(3) - 1, 0), i % 2 == 0 ? 500 : 50);
        }
        due.is("the first of 12", x.book(0, 0), 60);
        due.is("the last of 12", x.book(11, 0), 50);
        due.is("DEED 12 of 12", x.book(12, 0), NO);
        x.flies(0, 6);
        due.is("the first of 13 is forgotten", x.book(0, 0), 650);
        due.is("the last of 13", x.book(11, 0), 560);
        due.is("DEED 12 of 13", x.book(12, 0), NO);
    }

    private static void bookInOrder() {
        due.says("a DEED (a, b, how FAR it was; 12 at most: then the first is forgotten)");
        // fields at 0, 1, 2, 3, 4, 6 and 9: no two of these flights are alike
        CrowMiles x = Due.told("country;place 0 0 0;place 0 1 0;place 0 2 0;place 0 3 0;place 0 4 0;place 0 6 0;place 0 9 0;"
                + "crow 0 0;");
        int[] trail = {0, 6, 0, 5, 1, 6, 2, 5, 3, 6, 4, 0, 3, 1, 2};
        int[] lengths = {90, 90, 60, 50, 80, 70, 40, 30, 60, 50, 40, 30, 20, 10};
        for (int flights = 1; flights <= 14; flights++) {
            due.is("flight " + flights, x.flies(0, trail[flights]), lengths[flights - 1]);
            int first = Math.max(0, flights - 12);
            int together = 0;
            for (int i = first; i < flights; i++) {
                due.is("DEED " + (i - first) + " of " + flights, x.book(i - first, 0), 100 * trail[i] + 10 * trail[i + 1]);
                due.is("its length", x.book(i - first, 1), lengths[i]);
                together += lengths[i];
            }
            due.is("lengths of " + flights, x.count(4), together);
        }
    }

    // ---- owner

    private static void owner(String what, String text, int... pairs) {
        CrowMiles x = Due.told(text);
        list(what, pairs.length, pairs, k -> x.owner(0, k));
    }

    private static void ownerOfFewPlaces() {
        due.says("OWNER: a surveyor lets a CROW go from where she is to PLACE i (of all but that), an owner stands at "
                + "PLACE j (of all but that)");
        owner("one PLACE", "country;place 0 0 0;crow 0 0;");
        owner("two PLACES, from 0", "country;place 0 0 0;place 0 9 9;crow 0 0;", 11);
        owner("two PLACES, from 1", "country;place 0 0 0;place 0 9 9;crow 0 1;", 0);
        owner("two PLACES, flown", "country;place 0 0 0;place 0 9 9;crow 0 0;fly 0 1;", 0);
        owner("three PLACES, from 1", "country;place 0 0 0;place 0 1 0;place 0 9 9;crow 0 1;", 20);
        // from the last one it is 9 to 0, 1 to 1, 4 to 2
        owner("four PLACES, from 3", "country;place 0 0 0;place 0 8 0;place 0 5 0;place 0 9 0;crow 0 3;", 1);
        // from the same spot by number 1 it is 0 to 0, from 0 to 1 it is 10
        owner("three PLACES, a hall, from 1", "country;place 0 0 0;place 5 0 0;place 0 5 0;crow 0 1;", 20);
        CrowMiles x = Due.told("country;place 0 0 0;place 0 9 9;crow 0 0;");
        due.is("k = -2", x.owner(0, -2), -10);
        due.is("k = -1", x.owner(0, -1), 1);
    }

    private static void ownerTens() {
        due.says("to the owner 5, if i is j, less how FAR it is to j by ten (cut)");
        // 10 and 60, by ten 1 and 6: at 2 he would get 5 - 6, no more than -1
        owner("1 and 6", "country;place 0 0 0;place 0 1 0;place 0 6 0;crow 0 0;", 21);
        // 10 and 50: at 2 he would get 5 - 5, more than -1; there the surveyor leaves
        owner("1 and 5", "country;place 0 0 0;place 0 1 0;place 0 5 0;crow 0 0;");
        // 9 and 54 by a certified one, cut 0 and 5: 5 - 5 is no more than 0
        owner("9 and 54", "country;place 0 0 0;place 0 1 0;place 0 6 0;crow 4 0;", 21);
        // 9 and 45, cut 0 and 4: 5 - 4 is more than 0
        owner("9 and 45", "country;place 0 0 0;place 0 1 0;place 0 5 0;crow 4 0;");
        due.says("to the surveyor how FAR it is to i by ten (cut), less 6, if i is j");
        // 70 and 10: he would get 7 - 6 at 2, as much as 1 at 1, but the owner is better off at 1
        owner("7 and 1", "country;place 0 0 0;place 0 1 0;place 0 7 0;crow 0 0;", 21);
        // 80 and 10: by ten 8 and 1; with the owner at 2 he would get 2 there and 1 elsewhere, but the owner leaves
        owner("8 and 1", "country;place 0 0 0;place 0 1 0;place 0 8 0;crow 0 0;", 21);
        // both far and alike: one follows, the other leaves
        owner("9 and 9", "country;place 0 0 0;place 0 9 0;place 0 0 9;crow 0 0;");
    }

    private static void ownerRests() {
        due.says("pairs 10 i and j that rest (neither would get more elsewhere): how many; the k-th (rising).");
        // 10, 60, 60: with the owner at 1 the surveyor gets 6 at 2 and at 3, and 5 - 6 is no more than -1
        owner("as much elsewhere", "country;place 0 0 0;place 0 1 0;place 0 6 0;place 0 0 6;crow 0 0;", 21, 31);
        // 10, 64 to the sheep, 60: by ten the last two are alike
        owner("as much by ten", "country;place 0 0 0;place 0 1 0;place 2 6 0;place 0 0 6;crow 0 0;", 21, 31);
        // 10, 66 to the sheep at hour 2, 60: by ten the last two are alike
        owner("as much by ten at the most", "country;place 0 0 0;place 0 1 0;place 2 6 0;place 0 0 6;crow 0 0;hours 2;", 21, 31);
        // hungry at hour 12: 15, 19 to the sheep, 95: by ten the first two are alike
        owner("as little by ten", "country;place 0 0 0;place 0 1 0;place 2 0 1;place 0 9 0;crow 1 0;hours 12;", 31, 32);
        // 10, 60, 70: more at 3
        owner("more elsewhere", "country;place 0 0 0;place 0 1 0;place 0 6 0;place 0 0 7;crow 0 0;", 31);
    }

    private static void ownerRising() {
        due.says("the k-th (rising)");
        // 1, 1, 1 near; 9, 9, 9 far: each far one with each near one
        owner("six PLACES", "country;place 0 0 0;place 0 9 0;place 0 1 0;place 0 0 9;place 0 0 1;place 0 8 1;place 0 1 0;"
                + "crow 0 0;", 12, 14, 16, 32, 34, 36, 52, 54, 56);
        // all at one spot, nought everywhere: the owner follows, the surveyor leaves
        owner("one spot", "country;place 0 0 0;place 0 0 0;place 0 0 0;crow 0 0;");
    }
}
