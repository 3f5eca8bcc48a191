/** Promises 14 to 21: straight, far, way, round, clash, late, standard, book. */
public final class FarTest {
    private static final Due due = new Due("FarTest");
    private static final int NONE = CrowMiles.NONE, BAD = CrowMiles.BAD, NO = CrowMiles.NO;
    private static final int NOT_SO_MANY = -5, BAD_OF_LIST = -10;
    private static final int PLAIN = 0, HUNGRY = 1, TIRED = 2, WALKER = 3, CERTIFIED = 4, STANDARD = 5;
    private static final int FIELD = 0, ELM = 1, SHEEP = 2, RESERVOIR = 3, FRIEND = 4, GUILDHALL = 5;

    public static void main(String[] args) {
        straight();
        farByKindsOfCrows();
        farByKindsOfPlaces();
        far();
        way();
        round();
        clash();
        late();
        standard();
        book();
        due.end();
    }

    private static void straight() {
        CrowMiles x = Due.told("country;place 0 0 0;place 3 9 9;place 1 2 7;");
        due.is("14: 0 to 1", x.straight(0, 1), 18);
        due.is("14: 1 to 0", x.straight(1, 0), 18);
        due.is("14: 1 to 2", x.straight(1, 2), 9);
        due.is("14: 2 to 0", x.straight(2, 0), 9);
        due.is("14: 2 to 2", x.straight(2, 2), 0);
        due.is("14: from -1", x.straight(-1, 0), BAD);
        due.is("14: from 3", x.straight(3, 0), BAD);
        due.is("14: to -1", x.straight(0, -1), BAD);
        due.is("14: to 3", x.straight(0, 3), BAD);
        due.is("14: BADs", x.status(0), 4);
    }

    /** How far it is over a straight d, if a crow of a kind that is tired by n goes to a kind of place at hour t. */
    private static int farOf(int crowKind, int placeKind, int d, int t, int n) {
        CrowMiles x = new CrowMiles();
        x.place(FIELD, 0, 0);
        x.place(placeKind, Math.min(d, 9), Math.max(d - 9, 0));
        x.crow(crowKind, 0);
        for (int i = 0; i < n; i++) {
            x.flies(0, 1 - i % 2);
        }
        x.hours(1 + (24 + t - (n + 1) % 24) % 24);
        return x.far(0, 0, 1);
    }

    private static void farByKindsOfCrows() {
        int[][] rows = {
            {PLAIN, 7, 0, 0, 70}, {PLAIN, 7, 23, 30, 70}, {PLAIN, 0, 12, 0, 0}, {PLAIN, 18, 0, 0, 180},
            {HUNGRY, 7, 11, 0, 70}, {HUNGRY, 7, 12, 0, 75}, {HUNGRY, 7, 23, 5, 75}, {HUNGRY, 7, 0, 5, 70},
            {HUNGRY, 0, 12, 0, 5},
            {TIRED, 7, 12, 0, 70}, {TIRED, 7, 0, 1, 73}, {TIRED, 7, 0, 9, 97}, {TIRED, 7, 0, 10, 97},
            {TIRED, 7, 0, 40, 97}, {TIRED, 0, 0, 8, 24},
            {WALKER, 7, 0, 0, 70}, {WALKER, 7, 0, 2, 76}, {WALKER, 7, 0, 3, 158}, {WALKER, 7, 0, 9, 194},
            {WALKER, 7, 0, 10, 194}, {WALKER, 18, 0, 99, 414},
            {CERTIFIED, 7, 12, 0, 63}, {CERTIFIED, 0, 0, 0, 0}, {CERTIFIED, 18, 0, 20, 162},
            {STANDARD, 7, 12, 0, 63}, {STANDARD, 0, 0, 0, 1}, {STANDARD, 1, 0, 4, 9}, {STANDARD, 18, 0, 0, 162}};
        for (int[] r : rows) {
            due.is("15: KIND " + r[0] + ", straight " + r[1] + ", hour " + r[2] + ", TIRED " + r[3],
                    farOf(r[0], FIELD, r[1], r[2], r[3]), r[4]);
        }
    }

    private static void farByKindsOfPlaces() {
        int[][] rows = {
            {PLAIN, FIELD, 7, 0, 0, 70}, {PLAIN, ELM, 7, 5, 0, 63}, {CERTIFIED, ELM, 1, 0, 0, 2},
            {PLAIN, ELM, 0, 0, 0, 1}, {PLAIN, ELM, 1, 0, 0, 3}, {HUNGRY, ELM, 0, 13, 0, 1}, {TIRED, ELM, 0, 0, 3, 2},
            {PLAIN, SHEEP, 7, 0, 0, 74}, {PLAIN, SHEEP, 7, 1, 0, 75}, {PLAIN, SHEEP, 7, 2, 0, 76},
            {PLAIN, SHEEP, 7, 23, 0, 76}, {PLAIN, SHEEP, 0, 0, 0, 4},
            {PLAIN, RESERVOIR, 7, 0, 0, 92}, {PLAIN, RESERVOIR, 7, 1, 0, 93}, {PLAIN, RESERVOIR, 7, 2, 0, 95},
            {PLAIN, RESERVOIR, 0, 0, 0, 5}, {WALKER, RESERVOIR, 18, 23, 9, 525},
            {PLAIN, FRIEND, 7, 0, 0, 32}, {PLAIN, FRIEND, 7, 1, 0, 63}, {PLAIN, FRIEND, 7, 22, 0, 32},
            {PLAIN, FRIEND, 0, 0, 0, 1}, {PLAIN, FRIEND, 0, 1, 0, 1}, {CERTIFIED, FRIEND, 1, 0, 0, 1},
            {PLAIN, FRIEND, 1, 0, 0, 2}, {CERTIFIED, FRIEND, 9, 0, 0, 37},
            {PLAIN, GUILDHALL, 7, 0, 0, 70}, {HUNGRY, GUILDHALL, 7, 12, 0, 70}, {CERTIFIED, GUILDHALL, 7, 0, 0, 60},
            {CERTIFIED, GUILDHALL, 1, 0, 0, 10}, {PLAIN, GUILDHALL, 0, 0, 0, 10}, {CERTIFIED, GUILDHALL, 2, 0, 0, 10},
            {CERTIFIED, GUILDHALL, 3, 0, 0, 20}};
        for (int[] r : rows) {
            due.is("15: KIND " + r[0] + " to KIND " + r[1] + ", straight " + r[2] + ", hour " + r[3] + ", TIRED " + r[4],
                    farOf(r[0], r[1], r[2], r[3], r[4]), r[5]);
        }
    }

    private static void far() {
        CrowMiles x = Due.told("country;place 0 0 0;place 1 3 4;place 3 9 0;crow 0 2;crow 3 0;");
        due.is("15: wherever she is", x.far(0, 0, 1), 63);
        due.is("15: by the KIND of the far end", x.far(0, 1, 0), 70);
        due.is("15: a is b, an elm", x.far(0, 1, 1), 0);
        due.is("15: a is b, a reservoir", x.far(0, 2, 2), 0);
        due.is("15: nothing is changed", x.of(0, 1) + x.count(2) + x.count(3), 2);
        due.is("15: CROW 2", x.far(2, 0, 1), BAD);
        due.is("15: CROW -1", x.far(-1, 0, 1), BAD);
        due.is("15: from -1", x.far(0, -1, 1), BAD);
        due.is("15: from 3", x.far(0, 3, 1), BAD);
        due.is("15: to -1", x.far(0, 1, -1), BAD);
        due.is("15: to 3", x.far(0, 1, 3), BAD);
        due.is("15: BADs", x.status(0), 6);
    }

    private static void way() {
        CrowMiles x = Due.told("country;place 0 0 0;place 0 4 0;place 0 9 0;crow 0 0;");
        due.is("16: straight on", x.way(0, 0, 2, NONE), 90);
        due.is("16: fewest parts of like ones", x.way(0, 0, 2, 0), 2);
        due.is("16: no more", x.way(0, 0, 2, 1), NOT_SO_MANY);
        due.is("16: to itself", x.way(0, 1, 1, NONE), 0);
        due.is("16: to itself comes nothing", x.way(0, 1, 1, 0), NOT_SO_MANY);
        due.is("16: k of the largest", x.way(0, 0, 2, Integer.MAX_VALUE), NOT_SO_MANY);
        due.is("16: -5 is none of BAD", x.status(0), 0);
        due.is("16: k -2", x.way(0, 0, 2, -2), BAD_OF_LIST);
        due.is("16: k of the least", x.way(0, 0, 2, Integer.MIN_VALUE), BAD_OF_LIST);
        due.is("16: CROW 1", x.way(1, 0, 2, NONE), BAD_OF_LIST);
        due.is("16: CROW -1", x.way(-1, 0, 2, NONE), BAD_OF_LIST);
        due.is("16: from 3", x.way(0, 3, 2, NONE), BAD_OF_LIST);
        due.is("16: from -1", x.way(0, -1, 2, NONE), BAD_OF_LIST);
        due.is("16: to 3", x.way(0, 0, 3, NONE), BAD_OF_LIST);
        due.is("16: to -1", x.way(0, 0, -1, NONE), BAD_OF_LIST);
        due.is("16: BADs", x.status(0), 8);

        // two elms at one spot: over either 33 + 50, over both one more
        CrowMiles y = Due.told("country;place 0 0 0;place 1 4 0;place 1 4 0;place 0 9 0;crow 0 3;");
        list("16: over the first elm", y, 83, new int[] {1, 3});
        // two elms a step apart: 33 + 3 + 40
        CrowMiles z = Due.told("country;place 0 0 0;place 1 5 0;place 1 4 0;place 0 9 0;crow 0 3;");
        list("16: over both elms", z, 76, new int[] {2, 1, 3});
        // the way back: 33 + 3 + 40
        due.is("16: back", z.way(0, 3, 0, NONE), 76);
        due.is("16: back over", z.way(0, 3, 0, 0), 1);
        z.hours(12);
        due.is("16: at another hour a plain one goes as far", z.way(0, 0, 3, NONE), 76);
        z.crow(1, 0);
        due.is("16: a hungry one there: three parts, 5 more each", z.way(1, 0, 3, NONE), 91);
        due.is("16: nothing is changed", z.count(3) + z.count(2), 12);
        // six elms in a row: 3 from each to the next, however they are numbered
        CrowMiles u = Due.told("country;place 0 0 0;place 1 5 0;place 1 4 0;place 1 3 0;place 1 2 0;place 1 1 0;"
                + "place 1 6 0;crow 0 0;");
        int[] row = {5, 4, 3, 2, 1, 6};
        due.is("16: over all", u.way(0, 0, 6, NONE), 18);
        for (int k = 0; k < 6; k++) {
            due.is("16: over all: " + k, u.way(0, 0, 6, k), row[k]);
        }
        due.is("16: over all: end", u.way(0, 0, 6, 6), NOT_SO_MANY);
        due.is("16: and back to the field", u.way(0, 6, 0, NONE), 25);
        due.is("16: and back to the field: 0", u.way(0, 6, 0, 0), 1);
        // places without any way between: the first parts of nought are left out
        CrowMiles w = Due.told("country;place 0 5 5;place 0 5 5;place 0 5 5;place 0 5 5;crow 0 0;");
        due.is("16: nought", w.way(0, 0, 3, NONE), 0);
        due.is("16: nought in one part", w.way(0, 0, 3, 0), 3);
        due.is("16: and no other", w.way(0, 0, 3, 1), NOT_SO_MANY);
    }

    private static void list(String what, CrowMiles x, int sum, int[] places) {
        due.is(what + ": sum", x.way(0, 0, 3, NONE), sum);
        for (int k = 0; k < places.length; k++) {
            due.is(what + ": " + k, x.way(0, 0, 3, k), places[k]);
        }
        due.is(what + ": end", x.way(0, 0, 3, places.length), NOT_SO_MANY);
    }

    private static void round() {
        CrowMiles x = Due.told("country;place 1 0 0;crow 5 0;");
        due.is("17: one PLACE", x.round(0, NONE), 0);
        due.is("17: one PLACE: 0", x.round(0, 0), NOT_SO_MANY);
        x.place(0, 5, 0);
        due.is("17: there and back", x.round(0, NONE), 45 + 38);
        due.is("17: there", x.round(0, 0), 1);
        due.is("17: back is not told", x.round(0, 1), NOT_SO_MANY);
        due.is("17: k -2", x.round(0, -2), BAD_OF_LIST);
        due.is("17: CROW 1", x.round(1, NONE), BAD_OF_LIST);
        due.is("17: CROW -1", x.round(-1, NONE), BAD_OF_LIST);
        due.is("17: BADs", x.status(0), 3);

        // corners of a square, crossed in number: 0 2 1 3 and 0 3 1 2 are alike
        CrowMiles y = Due.told("country;place 0 0 0;place 0 9 9;place 0 0 9;place 0 9 0;crow 0 2;");
        due.is("17: a square", y.round(0, NONE), 360);
        roundIs("17: a square", y, new int[] {2, 1, 3});
        y.place(0, 5, 0);
        y.place(0, 9, 5);
        y.place(0, 4, 9);
        due.is("17: with more between", y.round(0, NONE), 360);
        roundIs("17: with more between", y, new int[] {2, 6, 1, 5, 3, 4});

        CrowMiles z = Due.told("country;place 0 0 0;place 5 0 9;place 0 0 5;place 5 5 0;crow 4 0;");
        // 0 1 2 3: 80 + 36 + 90 + 45; 0 1 3 2: 80 + 120 + 90 + 45; 0 2 1 3: 45 + 30 + 120 + 45;
        // 0 2 3 1: 45 + 90 + 120 + 81; 0 3 1 2: 40 + 120 + 36 + 45; 0 3 2 1: 40 + 90 + 30 + 81
        due.is("17: guildhalls", z.round(0, NONE), 240);
        roundIs("17: guildhalls", z, new int[] {2, 1, 3});
        // wherever all are at one spot the first round is the rising one
        CrowMiles w = Due.told("country;place 0 5 5;place 0 5 5;place 0 5 5;place 0 5 5;crow 0 3;");
        due.is("17: one spot", w.round(0, NONE), 0);
        roundIs("17: one spot", w, new int[] {1, 2, 3});
    }

    private static void roundIs(String what, CrowMiles x, int[] places) {
        for (int k = 0; k < places.length; k++) {
            due.is(what + ": " + k, x.round(0, k), places[k]);
        }
        due.is(what + ": end", x.round(0, places.length), NOT_SO_MANY);
    }

    private static void clash() {
        CrowMiles x = Due.told("country;place 0 0 0;place 0 5 0;place 0 9 0;crow 0 0;");
        due.is("18: no way over is shorter, as long ones are none", x.clash(0, NONE), 0);
        due.is("18: none: 0", x.clash(0, 0), NOT_SO_MANY);
        due.is("18: k -2", x.clash(0, -2), BAD_OF_LIST);
        due.is("18: CROW 1", x.clash(1, NONE), BAD_OF_LIST);
        due.is("18: CROW -1", x.clash(-1, NONE), BAD_OF_LIST);
        due.is("18: BADs", x.status(0), 3);
        // an elm between: shorter by 7 both ways
        CrowMiles y = Due.told("country;place 0 0 0;place 1 5 0;place 0 9 0;crow 0 0;");
        due.is("18: over an elm", y.clash(0, NONE), 2);
        due.is("18: 0 to 2", y.clash(0, 0), 2);
        due.is("18: 2 to 0", y.clash(0, 1), 20);
        due.is("18: no 3rd", y.clash(0, 2), NOT_SO_MANY);
        // seven elms in a row: all that are no neighbours
        CrowMiles z = Due.told("country;place 1 0 0;place 1 1 0;place 1 2 0;place 1 3 0;place 1 4 0;place 1 5 0;"
                + "place 1 6 0;crow 0 0;");
        due.is("18: seven elms", z.clash(0, NONE), 30);
        due.is("18: seven elms: 0", z.clash(0, 0), 2);
        due.is("18: seven elms: 4", z.clash(0, 4), 6);
        due.is("18: seven elms: 5", z.clash(0, 5), 13);
        due.is("18: seven elms: 29", z.clash(0, 29), 64);
        due.is("18: seven elms: end", z.clash(0, 30), NOT_SO_MANY);
        // the third one is PLACE 0
        CrowMiles w = Due.told("country;place 1 5 0;place 0 0 0;place 0 9 0;crow 0 0;");
        due.is("18: over 0", w.clash(0, NONE), 2);
        due.is("18: over 0: 0", w.clash(0, 0), 12);
        due.is("16: over 0", w.way(0, 1, 2, NONE), 83);
        due.is("16: over 0: 0", w.way(0, 1, 2, 0), 0);
        due.is("16: over 0: 1", w.way(0, 1, 2, 1), 2);
        due.is("16: over all as they are numbered", z.way(0, 0, 6, NONE), 18);
        due.is("16: over all as they are numbered: 0", z.way(0, 0, 6, 0), 1);
        due.is("16: over all against their numbers", z.way(0, 6, 0, NONE), 18);
        due.is("16: over all against their numbers: 5", z.way(0, 6, 0, 5), 0);
        CrowMiles one = Due.told("country;place 0 0 0;place 1 5 0;crow 0 0;");
        due.is("18: no third PLACE", one.clash(0, NONE), 0);
    }

    private static void late() {
        CrowMiles x = Due.told("country;place 0 0 0;place 2 3 4;place 4 5 2;place 3 0 7;crow 0 0;crow 1 1;crow 3 0;");
        int[][] rows = {
            {0, 1, 0, 0, 70}, {0, 0, 1, 2, 76}, {0, 0, 2, 1, 63}, {0, 0, 3, 2, 95}, {0, 1, 1, 0, 0},
            {1, 1, 0, 12, 75}, {1, 0, 1, 14, 81}, {1, 0, 2, 13, 68}, {1, 0, 3, 14, 101}, {1, 2, 2, 0, 0},
            {2, 1, 0, 0, 70}};
        for (int[] r : rows) {
            due.is("19: the hour of " + r[0] + " from " + r[1] + " to " + r[2], x.late(r[0], r[1], r[2], 0), r[3]);
            due.is("19: how far of " + r[0] + " from " + r[1] + " to " + r[2], x.late(r[0], r[1], r[2], 1), r[4]);
        }
        x.flies(2, 3);
        x.flies(2, 0);
        x.flies(2, 3);
        due.is("19: TIRED as now", x.late(2, 1, 0, 1), 158);
        due.is("19: TIRED as now, the hour", x.late(2, 1, 0, 0), 0);
        x.hours(10);
        due.is("19: whatever the HOUR is", x.late(1, 0, 2, 0), 13);
        due.is("19: what 2", x.late(0, 0, 1, 2), BAD);
        due.is("19: what -1", x.late(0, 0, 1, -1), BAD);
        due.is("19: CROW 3", x.late(3, 0, 1, 0), BAD);
        due.is("19: CROW -1", x.late(-1, 0, 1, 0), BAD);
        due.is("19: from 4", x.late(0, 4, 1, 0), BAD);
        due.is("19: to 4", x.late(0, 0, 4, 0), BAD);
        due.is("19: from -1", x.late(0, -1, 1, 0), BAD);
        due.is("19: to -1", x.late(0, 0, -1, 0), BAD);
        due.is("19: BADs", x.status(0), 8);
    }

    private static void standard() {
        CrowMiles x = Due.told("country;place 0 0 0;place 0 3 4;crow 2 0;crow 0 0;");
        due.is("20: no such DEED", x.standard(0, 1), NONE);
        due.is("20: nor from one to itself", x.standard(0, 0), NONE);
        due.is("20: that is none of BAD", x.status(0), 0);
        x.flies(0, 1);
        due.is("20: one", x.standard(0, 1), 70);
        due.is("20: not the way back", x.standard(1, 0), NONE);
        x.flies(0, 0);
        x.flies(0, 1);
        due.is("20: 70, 76: the least of like ones", x.standard(0, 1), 70);
        x.flies(0, 0);
        x.flies(0, 1);
        due.is("20: 70, 76, 82", x.standard(0, 1), 76);
        x.flies(0, 0);
        x.flies(0, 1);
        due.is("20: 70, 76, 82, 88", x.standard(0, 1), 76);
        x.flies(1, 1);
        due.is("20: 70, 76, 82, 88, 70", x.standard(0, 1), 76);
        x.flies(1, 0);
        x.flies(1, 1);
        due.is("20: 70, 76, 82, 88, 70, 70", x.standard(0, 1), 70);
        due.is("20: 73, 79, 85, 70", x.standard(1, 0), 73);
        CrowMiles y = Due.told("country;place 0 0 0;place 0 1 0;place 0 9 9;crow 0 0;crow 0 2;crow 0 0;");
        y.flies(0, 1);
        y.flies(1, 1);
        y.flies(2, 2);
        due.is("20: others from a, others to b", y.standard(0, 1), 10);
        due.is("20: others to b", y.standard(2, 1), 170);
        due.is("20: others from a", y.standard(0, 2), 180);
        due.is("20: none of these", y.standard(1, 2), NONE);
        x.forget(2);
        due.is("20: forgotten", x.standard(0, 1), NONE);
        due.is("20: from 2", x.standard(2, 0), BAD);
        due.is("20: from -1", x.standard(-1, 0), BAD);
        due.is("20: to 2", x.standard(0, 2), BAD);
        due.is("20: to -1", x.standard(0, -1), BAD);
        due.is("20: BADs", x.status(0), 4);
    }

    private static void book() {
        CrowMiles x = Due.told("country;place 0 0 0;place 1 3 4;place 5 9 9;crow 0 0;");
        due.is("21: none", x.book(0, 0), NO);
        x.flies(0, 2);
        x.flies(0, 1);
        due.is("21: 0 to 2", x.book(0, 0), 20);
        due.is("21: its length", x.book(0, 1), 180);
        due.is("21: 2 to 1", x.book(1, 0), 210);
        due.is("21: its length", x.book(1, 1), 103);
        due.is("21: no 3rd", x.book(2, 1), NO);
        due.is("21: k of the largest", x.book(Integer.MAX_VALUE, 1), NO);
        due.is("21: NOs", x.status(1), 3);
        due.is("21: k -1", x.book(-1, 0), BAD);
        due.is("21: what 2", x.book(0, 2), BAD);
        due.is("21: what -1", x.book(0, -1), BAD);
        due.is("21: BAD comes ahead of NO", x.book(9, 2), BAD);
        due.is("21: BADs", x.status(0), 4);
    }
}
