/** The section Terms at its limits: places, crows, hours, what kinds say, flights and rests. */
public final class TermsEdgeTest {
    private static final Due due = new Due("TermsEdgeTest");
    private static final int NO = CrowMiles.NO, FULL = CrowMiles.FULL;
    private static final int PLAIN = 0, HUNGRY = 1, TIRED = 2, WALKER = 3, CERTIFIED = 4, STANDARD = 5;
    private static final int FIELD = 0, ELM = 1, SHEEP = 2, RESERVOIR = 3, FRIEND = 4, GUILDHALL = 5;

    public static void main(String[] args) {
        places();
        placeNumbers();
        straight();
        crows();
        tiredAtFirst();
        hours();
        hourOfADay();
        plain();
        hungry();
        tired();
        walker();
        certified();
        standard();
        field();
        elm();
        sheep();
        reservoir();
        friend();
        guildhall();
        farAtNoDistance();
        farAtTheMost();
        flightElsewhere();
        mostDeeds();
        mostTired();
        flightsHour();
        rest();
        due.end();
    }

    // ---- places and crows

    private static void places() {
        due.says("PLACES 0 ..");
        CrowMiles x = new CrowMiles();
        for (int i = 0; i <= 6; i++) {
            due.is("PLACES ahead of place " + i, x.count(0), i);
            due.is("place " + i, x.place(5 - i % 6, i, 9), i);
        }
        due.is("the 7th is there", x.about(6, 1), 6);
        due.is("place 7", x.place(0, 0, 0), FULL);
        due.is("PLACES behind it", x.count(0), 7);
        due.is("the 7th stays", x.about(6, 1), 6);
        due.is("country()", x.country(), 7);
        due.is("place 0 anew", x.place(0, 1, 2), 0);
    }

    private static void placeNumbers() {
        due.says("6, as they come: a KIND, X and Y (0 .. 9 each).");
        int[][] rows = {{0, 0, 0}, {1, 1, 1}, {4, 8, 8}, {5, 9, 9}, {0, 9, 0}, {5, 0, 9}};
        CrowMiles x = new CrowMiles();
        for (int i = 0; i < rows.length; i++) {
            x.place(rows[i][0], rows[i][1], rows[i][2]);
            for (int what = 0; what < 3; what++) {
                due.is("about(" + i + ", " + what + ")", x.about(i, what), rows[i][what]);
            }
        }
    }

    private static void straight() {
        due.says("STRAIGHT between two: how far their X, how far their Y are from one another, together.");
        int[][] spots = {{0, 0}, {9, 9}, {0, 9}, {9, 0}, {0, 1}, {8, 9}, {0, 0}};
        int[][] want = {
            {0, 18, 9, 9, 1, 17, 0},
            {18, 0, 9, 9, 17, 1, 18},
            {9, 9, 0, 18, 8, 8, 9},
            {9, 9, 18, 0, 10, 10, 9},
            {1, 17, 8, 10, 0, 16, 1},
            {17, 1, 8, 10, 16, 0, 17},
            {0, 18, 9, 9, 1, 17, 0}};
        CrowMiles x = new CrowMiles();
        for (int[] spot : spots) {
            x.place(GUILDHALL, spot[0], spot[1]);
        }
        for (int a = 0; a < 7; a++) {
            for (int b = 0; b < 7; b++) {
                due.is("straight(" + a + ", " + b + ")", x.straight(a, b), want[a][b]);
            }
        }
    }

    private static void crows() {
        due.says("CROWS 0 .. 2, as they come: a KIND, the PLACE where one is");
        CrowMiles x = new CrowMiles();
        for (int i = 0; i <= 6; i++) {
            x.place(0, i, i);
        }
        int[][] rows = {{0, 0}, {5, 6}, {4, 3}};
        for (int c = 0; c <= 2; c++) {
            due.is("CROWS ahead of crow " + c, x.count(1), c);
            due.is("crow " + c, x.crow(rows[c][0], rows[c][1]), c);
        }
        due.is("crow 3", x.crow(0, 0), FULL);
        due.is("CROWS behind it", x.count(1), 3);
        for (int c = 0; c <= 2; c++) {
            due.is("KIND of " + c, x.of(c, 0), rows[c][0]);
            due.is("PLACE of " + c, x.of(c, 1), rows[c][1]);
        }
    }

    private static void tiredAtFirst() {
        due.says("TIRED (0 .. 99; 0 at first)");
        CrowMiles x = Due.told("country;place 0 0 0;place 0 1 0;crow 2 0;");
        due.is("the first", x.of(0, 2), 0);
        for (int i = 0; i < 5; i++) {
            x.flies(0, 1 - i % 2);
        }
        x.crow(3, 1);
        due.is("one beside a TIRED one", x.of(1, 2), 0);
        x.country();
        x.place(0, 0, 0);
        x.crow(2, 0);
        due.is("one where a TIRED one was", x.of(0, 2), 0);
        due.is("one told by a text where a TIRED one was", Due.read(x, "country;place 0 0 0;crow 2 0;"), 3);
        due.is("her", x.of(0, 2), 0);
    }

    // ---- hours

    private static void hours() {
        due.says("HOURS have numbers, 0 at first (9999 at most)");
        CrowMiles x = new CrowMiles();
        due.is("at first", x.count(2), 0);
        due.is("1", x.hours(1), 1);
        Lands.waitTill(x, 9997);
        due.is("9998", x.hours(1), 9998);
        due.is("9999", x.hours(1), 9999);
        due.is("9999 and 1", x.hours(1), 9999);
        due.is("9999 and 99", x.hours(99), 9999);
        due.is("the HOUR", x.count(2), 9999);
    }

    private static void hourOfADay() {
        due.says("of a day: that by 24 left over.");
        // the hour; how far a hungry one makes it over 7 to a field, to sheep, to a friend
        int[][] rows = {{0, 70, 74, 32}, {1, 70, 75, 63}, {11, 70, 76, 63}, {12, 75, 79, 34}, {13, 75, 80, 68},
            {22, 75, 80, 34}, {23, 75, 81, 68}, {24, 70, 74, 32}, {25, 70, 75, 63}, {35, 70, 76, 63}, {36, 75, 79, 34},
            {47, 75, 81, 68}, {48, 70, 74, 32}, {9983, 75, 81, 68}, {9984, 70, 74, 32}, {9995, 70, 76, 63},
            {9996, 75, 79, 34}, {9998, 75, 81, 34}, {9999, 75, 79, 68}};
        for (int[] r : rows) {
            CrowMiles x = Due.told("country;place 0 0 0;place 0 3 4;place 2 4 3;place 4 5 2;crow 1 0;");
            Lands.waitTill(x, r[0]);
            for (int b = 1; b <= 3; b++) {
                due.is("hour " + r[0] + " to " + b, x.far(0, 0, b), r[b]);
            }
        }
    }

    // ---- what kinds of crows make

    /** Marks say of each length whether she made that: the one told, and neither of those beside it. */
    private static void makes(int kind, int d, int t, int n, int want) {
        CrowMiles x = Due.told("country;place 0 0 0;crow 0 0;");
        for (int made = Math.max(0, want - 1); made <= Math.min(500, want + 1); made++) {
            x.mark(0, d, t, n, made);
            due.is("KIND " + kind + " of " + d + " at hour " + t + ", TIRED by " + n + ", made " + made,
                    x.kinds(0) >> kind & 1, made == want ? 1 : 0);
            x.forget(1);
        }
    }

    private static void plain() {
        due.says("0 PLAIN: ten times d.");
        makes(PLAIN, 0, 0, 0, 0);
        makes(PLAIN, 1, 23, 99, 10);
        makes(PLAIN, 17, 12, 3, 170);
        makes(PLAIN, 18, 23, 99, 180);
    }

    private static void hungry() {
        due.says("1 HUNGRY (under PLAIN): 5 more than PLAIN, if t is 12 or more.");
        makes(HUNGRY, 0, 0, 0, 0);
        makes(HUNGRY, 0, 11, 99, 0);
        makes(HUNGRY, 0, 12, 99, 5);
        makes(HUNGRY, 18, 11, 0, 180);
        makes(HUNGRY, 18, 12, 0, 185);
        makes(HUNGRY, 18, 13, 0, 185);
        makes(HUNGRY, 18, 23, 0, 185);
    }

    private static void tired() {
        due.says("2 TIRED (under PLAIN): PLAIN and 3 times n, n counting 9 at most.");
        makes(TIRED, 0, 0, 0, 0);
        makes(TIRED, 0, 0, 1, 3);
        makes(TIRED, 0, 23, 8, 24);
        makes(TIRED, 0, 0, 9, 27);
        makes(TIRED, 0, 0, 10, 27);
        makes(TIRED, 0, 0, 99, 27);
        makes(TIRED, 18, 12, 8, 204);
        makes(TIRED, 18, 12, 9, 207);
        makes(TIRED, 18, 12, 99, 207);
    }

    private static void walker() {
        due.says("3 WALKER (under TIRED): twice TIRED, if n is 3 or more, else as TIRED.");
        makes(WALKER, 0, 0, 0, 0);
        makes(WALKER, 1, 0, 0, 10);
        makes(WALKER, 0, 0, 2, 6);
        makes(WALKER, 0, 0, 3, 18);
        makes(WALKER, 0, 0, 4, 24);
        makes(WALKER, 18, 23, 2, 186);
        makes(WALKER, 18, 23, 3, 378);
        makes(WALKER, 18, 23, 8, 408);
        makes(WALKER, 18, 23, 9, 414);
        makes(WALKER, 18, 23, 10, 414);
        makes(WALKER, 18, 23, 99, 414);
    }

    private static void certified() {
        due.says("4 CERTIFIED (under PLAIN): PLAIN less d.");
        makes(CERTIFIED, 0, 0, 0, 0);
        makes(CERTIFIED, 1, 23, 99, 9);
        makes(CERTIFIED, 17, 12, 3, 153);
        makes(CERTIFIED, 18, 23, 99, 162);
    }

    private static void standard() {
        due.says("5 STANDARD (under CERTIFIED): CERTIFIED, 1 at least.");
        makes(STANDARD, 0, 0, 0, 1);
        makes(STANDARD, 0, 23, 99, 1);
        makes(STANDARD, 1, 0, 0, 9);
        makes(STANDARD, 18, 23, 99, 162);
    }

    // ---- how far it is to kinds of places

    /** Notes say of each length whether it is as far: the one told, and neither of those beside it. */
    private static void isFar(int kind, int m, int t, int want) {
        CrowMiles x = Due.told("country;place 0 0 0;");
        for (int far = Math.max(0, want - 1); far <= Math.min(900, want + 1); far++) {
            x.note(0, m, t, far);
            due.is("KIND " + kind + ", made " + m + " at hour " + t + ", far " + far, x.is(0) >> kind & 1, far == want ? 1 : 0);
            x.forget(0);
        }
    }

    private static void field() {
        due.says("0 FIELD: m.");
        isFar(FIELD, 0, 0, 0);
        isFar(FIELD, 1, 23, 1);
        isFar(FIELD, 499, 12, 499);
        isFar(FIELD, 500, 23, 500);
    }

    private static void elm() {
        due.says("1 ELM (under FIELD): 7 less than FIELD, 1 at least.");
        isFar(ELM, 0, 0, 1);
        isFar(ELM, 6, 1, 1);
        isFar(ELM, 7, 0, 1);
        isFar(ELM, 8, 23, 1);
        isFar(ELM, 9, 0, 2);
        isFar(ELM, 10, 1, 3);
        isFar(ELM, 500, 23, 493);
    }

    private static void sheep() {
        due.says("2 SHEEP (under FIELD): FIELD, 4 more, and t by 3 left over.");
        isFar(SHEEP, 0, 0, 4);
        isFar(SHEEP, 0, 1, 5);
        isFar(SHEEP, 0, 2, 6);
        isFar(SHEEP, 0, 3, 4);
        isFar(SHEEP, 0, 21, 4);
        isFar(SHEEP, 0, 22, 5);
        isFar(SHEEP, 0, 23, 6);
        isFar(SHEEP, 500, 0, 504);
        isFar(SHEEP, 500, 23, 506);
    }

    private static void reservoir() {
        due.says("3 RESERVOIR (under SHEEP): SHEEP and a quarter (cut) of it.");
        isFar(RESERVOIR, 0, 0, 5);
        isFar(RESERVOIR, 0, 1, 6);
        isFar(RESERVOIR, 0, 2, 7);
        isFar(RESERVOIR, 3, 0, 8);
        isFar(RESERVOIR, 4, 0, 10);
        isFar(RESERVOIR, 4, 3, 10);
        isFar(RESERVOIR, 5, 0, 11);
        isFar(RESERVOIR, 500, 0, 630);
        isFar(RESERVOIR, 500, 23, 632);
    }

    private static void friend() {
        due.says("4 FRIEND (under ELM): half (cut up) of ELM, if t is an even number, else as ELM.");
        isFar(FRIEND, 0, 0, 1);
        isFar(FRIEND, 0, 1, 1);
        isFar(FRIEND, 8, 0, 1);
        isFar(FRIEND, 9, 0, 1);
        isFar(FRIEND, 9, 1, 2);
        isFar(FRIEND, 10, 0, 2);
        isFar(FRIEND, 10, 1, 3);
        isFar(FRIEND, 11, 2, 2);
        isFar(FRIEND, 12, 22, 3);
        isFar(FRIEND, 12, 23, 5);
        isFar(FRIEND, 500, 22, 247);
        isFar(FRIEND, 500, 23, 493);
    }

    private static void guildhall() {
        due.says("5 GUILDHALL (under FIELD): FIELD, whole tens of it (cut), 10 at least.");
        isFar(GUILDHALL, 0, 0, 10);
        isFar(GUILDHALL, 9, 1, 10);
        isFar(GUILDHALL, 10, 0, 10);
        isFar(GUILDHALL, 11, 0, 10);
        isFar(GUILDHALL, 19, 0, 10);
        isFar(GUILDHALL, 20, 0, 20);
        isFar(GUILDHALL, 29, 0, 20);
        isFar(GUILDHALL, 499, 23, 490);
        isFar(GUILDHALL, 500, 23, 500);
    }

    // ---- how far

    private static CrowMiles allKindsAt(int spot, int crowKind) {
        CrowMiles x = new CrowMiles();
        x.place(FIELD, 0, 0);
        for (int kind = 0; kind < 6; kind++) {
            x.place(kind, spot, spot);
        }
        x.crow(crowKind, 0);
        return x;
    }

    private static void farAtNoDistance() {
        due.says("FAR from a to b by a CROW, at the HOUR and TIRED as now, wherever she is (a is b: 0).");
        int[] plain = {0, 1, 4, 5, 1, 10};
        int[] standard = {1, 1, 5, 6, 1, 10};
        CrowMiles x = allKindsAt(0, PLAIN);
        CrowMiles y = allKindsAt(0, STANDARD);
        for (int kind = 0; kind < 6; kind++) {
            due.is("plain, to another at the same spot, KIND " + kind, x.far(0, 0, kind + 1), plain[kind]);
            due.is("standard, to another at the same spot, KIND " + kind, y.far(0, 0, kind + 1), standard[kind]);
            due.is("plain, to itself, KIND " + kind, x.far(0, kind + 1, kind + 1), 0);
            due.is("standard, to itself, KIND " + kind, y.far(0, kind + 1, kind + 1), 0);
        }
        due.is("she is elsewhere", x.far(0, 2, 6), 10);
        due.is("she is at b", x.far(0, 6, 0), 0);
    }

    private static void farAtTheMost() {
        due.says("FAR from a to b by a CROW: by the KIND of b, of what she MAKES of STRAIGHT from a to b.");
        int[] plain = {180, 173, 184, 230, 87, 180};
        // tired by 99, at hour 99, which is 3 of a day: 414 made
        int[] walker = {414, 407, 418, 522, 407, 410};
        CrowMiles x = allKindsAt(9, PLAIN);
        CrowMiles y = allKindsAt(9, WALKER);
        for (int i = 0; i < 99; i++) {
            y.flies(0, 1 - i % 2);
        }
        for (int kind = 0; kind < 6; kind++) {
            due.is("plain, to KIND " + kind, x.far(0, 0, kind + 1), plain[kind]);
            due.is("plain, back to a field from KIND " + kind, x.far(0, kind + 1, 0), 180);
            due.is("walker, to KIND " + kind, y.far(0, 0, kind + 1), walker[kind]);
        }
    }

    // ---- flights and rests

    private static void flightElsewhere() {
        due.says("A FLIGHT of a CROW to another PLACE than where she is");
        CrowMiles x = Due.told("country;place 0 5 5;place 0 5 5;crow 0 0;");
        due.is("where she is", x.flies(0, 0), NO);
        due.is("another at the same spot", x.flies(0, 1), 0);
        due.is("she is there", x.of(0, 1), 1);
        due.is("a DEED of nought", x.book(0, 1), 0);
        due.is("from where to where", x.book(0, 0), 10);
        due.is("where she is now", x.flies(0, 1), NO);
        due.is("DEEDS", x.count(3), 1);
    }

    private static void mostDeeds() {
        due.says("a DEED (a, b, how FAR it was; 12 at most: then the first is forgotten)");
        CrowMiles x = Due.told("country;place 0 0 0;place 0 3 4;crow 2 0;");
        int together = 0;
        for (int i = 0; i < 11; i++) {
            together += x.flies(0, 1 - i % 2);
        }
        due.is("11 flights", x.count(3), 11);
        due.is("the first of 11", x.book(0, 1), 70);
        due.is("a 12th of 11", x.book(11, 0), NO);
        together += x.flies(0, 0);
        due.is("12 flights", x.count(3), 12);
        due.is("the first of 12", x.book(0, 1), 70);
        due.is("the 12th", x.book(11, 1), 97);
        due.is("from 1 to 0", x.book(11, 0), 100);
        due.is("lengths of 12", x.count(4), together);
        together += x.flies(0, 1) - 70;
        due.is("13 flights", x.count(3), 12);
        due.is("the first is forgotten", x.book(0, 1), 73);
        due.is("the 13th is the last", x.book(11, 0), 10);
        due.is("no 13th DEED", x.book(12, 0), NO);
        due.is("lengths of the last 12", x.count(4), together);
        together += x.flies(0, 0) - 73;
        due.is("14 flights", x.count(3), 12);
        due.is("the second is forgotten", x.book(0, 1), 76);
        due.is("lengths of the last 12 of 14", x.count(4), together);
    }

    private static void mostTired() {
        due.says("she is there, TIRED by 1 more (99 at most); the HOUR is one more.");
        CrowMiles x = Due.told("country;place 0 0 0;place 0 1 0;crow 3 0;crow 3 0;");
        for (int i = 0; i < 97; i++) {
            x.flies(0, 1 - i % 2);
        }
        int[] want = {97, 98, 99, 99, 99};
        for (int i = 0; i < want.length; i++) {
            due.is("TIRED behind " + (97 + i) + " flights", x.of(0, 2), want[i]);
            due.is("the HOUR behind " + (97 + i) + " flights", x.count(2), 97 + i);
            x.flies(0, i % 2);
        }
        due.is("the other", x.of(1, 2), 0);
        for (int i = 0; i < 3; i++) {
            x.undo();
        }
        due.is("TIRED, 3 of 102 undone", x.of(0, 2), 99);
        x.undo();
        due.is("TIRED, 4 of 102 undone", x.of(0, 2), 98);
    }

    private static void flightsHour() {
        due.says("NO: she is there, HOUR 9999.");
        CrowMiles x = Due.told("country;place 0 0 0;place 0 1 0;crow 0 0;");
        Lands.waitTill(x, 9997);
        due.is("at 9997", x.flies(0, 1), 10);
        due.is("at 9998", x.flies(0, 0), 10);
        due.is("the HOUR", x.count(2), 9999);
        due.is("at 9999", x.flies(0, 1), NO);
        due.is("she stays", x.of(0, 1), 0);
        due.is("no more TIRED", x.of(0, 2), 2);
        due.is("DEEDS", x.count(3), 2);
        due.is("undo()", x.undo(), 9998);
        due.is("at 9998, where she is", x.flies(0, 1), NO);
        due.is("at 9998 again", x.flies(0, 0), 10);
        due.is("at 9999 again", x.flies(0, 1), NO);
    }

    private static void rest() {
        due.says("A REST: TIRED is 0; the HOUR is 8 more.");
        CrowMiles x = Due.told("country;place 0 0 0;place 0 1 0;crow 2 0;");
        due.is("not TIRED", x.rests(0), 0);
        due.is("the HOUR", x.count(2), 8);
        x.flies(0, 1);
        due.is("TIRED by 1", x.rests(0), 1);
        due.is("TIRED behind it", x.of(0, 2), 0);
        due.is("the HOUR behind it", x.count(2), 17);
        due.is("how FAR behind it", x.far(0, 1, 0), 10);
        for (int i = 0; i < 100; i++) {
            x.flies(0, i % 2);
        }
        due.is("TIRED by 99", x.rests(0), 99);
        due.is("TIRED behind that", x.of(0, 2), 0);
        due.says("A REST (the HOUR 9999 at most): how TIRED she was. BAD.");
        int[][] rows = {{9990, 9998}, {9991, 9999}, {9992, 9999}, {9998, 9999}, {9999, 9999}};
        for (int[] r : rows) {
            CrowMiles y = Due.told("country;place 0 0 0;place 0 1 0;crow 2 0;fly 0 1;");
            Lands.waitTill(y, r[0]);
            due.is("at " + r[0], y.rests(0), 1);
            due.is("TIRED behind it at " + r[0], y.of(0, 2), 0);
            due.is("the HOUR behind it at " + r[0], y.count(2), r[1]);
            due.is("undone at " + r[0], y.undo(), r[0]);
        }
    }
}
