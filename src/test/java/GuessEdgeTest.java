/** What it is, at its limits, promises 22 to 28, 30 and 31: notes, marks, what they leave, winds, years. */
public final class GuessEdgeTest {
    private static final Due due = new Due("GuessEdgeTest");
    private static final int NONE = CrowMiles.NONE, BAD = CrowMiles.BAD, FULL = CrowMiles.FULL;
    private static final String TWO = "country;place 0 0 0;place 1 3 4;crow 0 0;crow 3 1;";
    private static final String ROW = "country;place 0 0 0;place 0 1 0;place 0 2 0;place 0 3 0;place 0 4 0;place 0 5 0;"
        + "place 0 6 0;";

    public static void main(String[] args) {
        sixNotes();
        noteNumbers();
        sixMarks();
        markNumbers();
        notesOfOne();
        marksOfOne();
        isAndLook();
        kindsAndAsk();
        askTiredAsSheIs();
        forget();
        windOdds();
        windCut();
        windLowestTerms();
        yearsNumbers();
        yearsBySeed();
        yearsCut();
        yearsCrowNotThere();
        yearsRest();
        yearsBeyondTheLastHour();
        due.end();
    }

    // ---- notes and marks

    private static void sixNotes() {
        due.says("NOTES 0 .. 5, as they come");
        CrowMiles x = Due.told(TWO);
        for (int i = 1; i <= 6; i++) {
            due.is("NOTES ahead of the " + i + "th", x.count(5), i - 1);
            due.is("NOTE " + i, x.note(i % 2, 10, 0, 10), i);
        }
        due.is("a 7th", x.note(0, 10, 0, 11), FULL);
        due.is("NOTES", x.count(5), 6);
        due.is("it was not taken", x.is(0), 33);
        due.is("a 7th that is BAD", x.note(2, 10, 0, 11), BAD);
        due.is("MARKS have room of their own", x.mark(0, 0, 0, 0, 0), 1);
        due.is("forget(0)", x.forget(0), 6);
        due.is("the first anew", x.note(0, 10, 0, 3), 1);
        due.is("it is taken", x.is(0), 2);
    }

    private static void noteNumbers() {
        due.says("to a PLACE, of which m (0 .. 500) was MADE, it was x (0 .. 900) FAR at hour t (0 .. 23)");
        CrowMiles x = Due.told(TWO);
        due.is("the least", x.note(0, 0, 0, 0), 1);
        due.is("a field", x.is(0), 1);
        due.is("the most m and t", x.note(1, 500, 23, 632), 2);
        due.is("a reservoir", x.is(1), 8);
        due.is("the most of all", x.note(1, 500, 23, 900), 3);
        due.is("none", x.is(1), 0);
        due.is("one less of each", x.note(0, 499, 22, 899), 4);
        int[][] bad = {{0, -1, 0, 0}, {0, 501, 0, 0}, {0, 0, 24, 0}, {0, 0, -1, 0}, {0, 0, 0, -1}, {0, 0, 0, 901},
            {-1, 0, 0, 0}, {2, 0, 0, 0}};
        for (int[] b : bad) {
            due.is("note(" + b[0] + ", " + b[1] + ", " + b[2] + ", " + b[3] + ")", x.note(b[0], b[1], b[2], b[3]), BAD);
        }
        due.is("NOTES", x.count(5), 4);
    }

    private static void sixMarks() {
        due.says("MARKS 0 .. 5, as they come");
        CrowMiles x = Due.told(TWO);
        for (int i = 1; i <= 6; i++) {
            due.is("MARKS ahead of the " + i + "th", x.count(6), i - 1);
            due.is("MARK " + i, x.mark(i % 2, 1, 0, 0, 9), i);
        }
        due.is("a 7th", x.mark(0, 1, 0, 0, 10), FULL);
        due.is("MARKS", x.count(6), 6);
        due.is("it was not taken", x.kinds(0), 48);
        due.is("a 7th that is BAD", x.mark(2, 1, 0, 0, 10), BAD);
        due.is("NOTES have room of their own", x.note(0, 0, 0, 0), 1);
        due.is("forget(1)", x.forget(1), 6);
        due.is("the first anew", x.mark(0, 1, 0, 0, 10), 1);
        due.is("it is taken", x.kinds(0), 15);
    }

    private static void markNumbers() {
        due.says("a CROW, TIRED by n (0 .. 99), MADE x (0 .. 500) of d (0 .. 18) at hour t (0 .. 23)");
        CrowMiles x = Due.told(TWO);
        due.is("the least", x.mark(0, 0, 0, 0, 0), 1);
        due.is("all but a standard one", x.kinds(0), 31);
        due.is("the most d, t and n", x.mark(1, 18, 23, 99, 414), 2);
        due.is("a walker", x.kinds(1), 8);
        due.is("the most of all", x.mark(1, 18, 23, 99, 500), 3);
        due.is("none", x.kinds(1), 0);
        due.is("one less of each", x.mark(0, 17, 22, 98, 499), 4);
        int[][] bad = {{0, -1, 0, 0, 0}, {0, 19, 0, 0, 0}, {0, 0, -1, 0, 0}, {0, 0, 24, 0, 0}, {0, 0, 0, -1, 0},
            {0, 0, 0, 100, 0}, {0, 0, 0, 0, -1}, {0, 0, 0, 0, 501}, {-1, 0, 0, 0, 0}, {2, 0, 0, 0, 0}};
        for (int[] b : bad) {
            due.is("mark(" + b[0] + ", " + b[1] + ", " + b[2] + ", " + b[3] + ", " + b[4] + ")",
                    x.mark(b[0], b[1], b[2], b[3], b[4]), BAD);
        }
        due.is("MARKS", x.count(6), 4);
    }

    private static void notesOfOne() {
        due.says("IS: KINDS (bits) by which all NOTES of one are so.");
        CrowMiles x = Due.told(TWO);
        due.is("without NOTES", x.is(0), 63);
        x.note(0, 1, 0, 1);
        due.is("field, elm or friend", x.is(0), 19);
        due.is("the other's", x.is(1), 63);
        x.note(0, 17, 0, 10);
        due.is("and elm or guildhall", x.is(0), 2);
        x.note(1, 11, 0, 10);
        due.is("the other's alone", x.is(1), 32);
        x.note(0, 17, 0, 11);
        due.is("and none", x.is(0), 0);
        due.is("the other's stays", x.is(1), 32);
        // the 6th counts as the first does
        x.forget(0);
        for (int i = 0; i < 5; i++) {
            x.note(0, 10, 0, 10);
        }
        due.is("five alike", x.is(0), 33);
        x.note(0, 11, 0, 11);
        due.is("and the 6th", x.is(0), 1);
        due.is("whatever the KIND is", x.about(0, 0), 0);
    }

    private static void marksOfOne() {
        due.says("WHAT: KINDS of CROWS (bits) by which all MARKS of one are so.");
        CrowMiles x = Due.told(TWO);
        due.is("without MARKS", x.kinds(0), 63);
        x.mark(0, 1, 0, 0, 9);
        due.is("certified or standard", x.kinds(0), 48);
        due.is("the other's", x.kinds(1), 63);
        x.mark(0, 0, 0, 0, 0);
        due.is("and no standard one", x.kinds(0), 16);
        x.mark(1, 0, 0, 0, 1);
        due.is("the other's alone", x.kinds(1), 32);
        x.mark(0, 0, 0, 0, 1);
        due.is("and none", x.kinds(0), 0);
        due.is("the other's stays", x.kinds(1), 32);
        x.forget(1);
        for (int i = 0; i < 5; i++) {
            x.mark(0, 1, 0, 1, 13);
        }
        due.is("five alike", x.kinds(0), 12);
        x.mark(0, 1, 0, 3, 38);
        due.is("and the 6th", x.kinds(0), 8);
    }

    /** Notes m, t, x; the kinds that they leave; the look that parts these best: every set there can be. */
    private static final int[][] NOTES = {
        {11, 0, 11, 1, 0}, {11, 0, 4, 2, 0}, {11, 0, 15, 4, 0}, {11, 0, 18, 8, 0}, {11, 0, 2, 16, 0}, {11, 0, 10, 32, 0},
        {11, 1, 4, 18, 9}, {11, 23, 4, 18, 9}, {1, 0, 1, 19, 9}, {8, 1, 1, 18, 9}, {10, 0, 10, 33, 0}, {17, 0, 10, 34, 0},
        {17, 1, 10, 50, 9}, {6, 0, 10, 36, 0}, {4, 0, 10, 40, 0}, {11, 0, 12, 0, NONE}, {0, 0, 900, 0, NONE}};

    private static void isAndLook() {
        due.says("LOOK: 100 t and m (t 0 .. 23, m 0 .. 60) by which the most of these KINDS to which it is as FAR are "
                + "fewest; of like ones the least; none: no KIND.");
        CrowMiles x = Due.told(TWO);
        due.is("all: at 8 elm and friend are alike still", x.look(0), 9);
        for (int[] r : NOTES) {
            x.note(0, r[0], r[1], r[2]);
            String told = r[2] + " far of " + r[0] + " at hour " + r[1];
            due.is("is, " + told, x.is(0), r[3]);
            due.is("look, " + told, x.look(0), r[4]);
            due.is("the other's, " + told, x.look(1), 9);
            x.forget(0);
        }
        due.is("NONE is no refusal", x.status(0), 0);
    }

    /** Marks d, t, n, x; the kinds that they leave; the question to one tired by 0, 1, 2, 3: every set but one. */
    private static final int[][] MARKS = {
        {0, 0, 0, 0, 31, 1201, 1, 1, 1201}, {0, 12, 0, 0, 29, 1, 0, 0, 1}, {1, 0, 0, 10, 15, 1200, 0, 0, 1200},
        {1, 12, 0, 10, 13, 0, 0, 0, 0}, {1, 0, 1, 10, 3, 1200, 1200, 1200, 1200}, {1, 0, 1, 13, 12, 0, 0, 0, 0},
        {1, 0, 3, 19, 4, 0, 0, 0, 0}, {1, 0, 3, 38, 8, 0, 0, 0, 0}, {1, 12, 1, 15, 2, 0, 0, 0, 0},
        {1, 12, 1, 10, 1, 0, 0, 0, 0}, {1, 0, 0, 9, 48, 0, 0, 0, 0}, {0, 0, 0, 1, 32, 0, 0, 0, 0},
        {0, 12, 1, 0, 17, 1, 1, 1, 1}, {0, 11, 1, 0, 19, 1201, 1201, 1201, 1201}, {1, 0, 0, 11, 0, NONE, NONE, NONE, NONE},
        {18, 23, 99, 500, 0, NONE, NONE, NONE, NONE}};

    private static void kindsAndAsk() {
        due.says("ASK: 100 t and d (t 0 .. 23, d 0 .. 18), TIRED as she is, by which the most of these KINDS that MAKE as "
                + "much are fewest; of like ones the least; none: no KIND.");
        for (int tired = 0; tired <= 3; tired++) {
            CrowMiles x = Due.told(TWO);
            for (int i = 0; i < tired; i++) {
                x.flies(0, 1 - i % 2);
            }
            due.is("all, TIRED by " + tired, x.ask(0), tired == 0 ? 1201 : 1);
            for (int[] r : MARKS) {
                x.mark(0, r[0], r[1], r[2], r[3]);
                String told = r[3] + " of " + r[0] + " at hour " + r[1] + ", TIRED by " + r[2];
                due.is("kinds, " + told, x.kinds(0), r[4]);
                due.is("ask, " + told + ", who is TIRED by " + tired, x.ask(0), r[5 + tired]);
                due.is("the other's, " + told, x.ask(1), 1201);
                x.forget(1);
            }
            due.is("NONE is no refusal", x.status(0), 0);
        }
    }

    private static void askTiredAsSheIs() {
        due.says("TIRED as she is");
        CrowMiles x = Due.told(TWO);
        x.mark(0, 0, 12, 0, 0);
        due.is("kinds", x.kinds(0), 29);
        // of plain, tired, walker and certified: at 0 three are alike till she is tired, none from 1 on if by 3
        int[] want = {1, 0, 0, 1, 1};
        for (int tired = 0; tired < want.length; tired++) {
            due.is("TIRED by " + tired, x.ask(0), want[tired]);
            x.flies(0, 1 - tired % 2);
        }
        for (int i = 5; i < 100; i++) {
            x.flies(0, 1 - i % 2);
        }
        due.is("TIRED by 99", x.ask(0), 1);
        x.rests(0);
        due.is("rested", x.ask(0), 1);
        x.flies(0, 1);
        due.is("TIRED by 1 again", x.ask(0), 0);
    }

    private static void forget() {
        due.says("No NOTES (0), MARKS (1), DEEDS (2; one that may be undone): how many there were. BAD.");
        CrowMiles x = new CrowMiles();
        for (int what = 0; what < 3; what++) {
            due.is("of none, " + what, x.forget(what), 0);
            due.is("may be undone behind it", x.count(7), what == 2 ? 1 : 0);
        }
        CrowMiles y = Lands.full();
        int lengths = y.count(4);
        due.is("6 NOTES", y.forget(0), 6);
        due.is("MARKS stay", y.count(6), 6);
        due.is("6 MARKS", y.forget(1), 6);
        due.is("DEEDS stay", y.count(4), lengths);
        due.is("NOTES and MARKS can not be undone", y.undo() > 0 ? y.count(5) + y.count(6) : -9, 0);
        due.is("12 DEEDS", y.forget(2), 12);
        due.is("none left", y.count(3) + y.count(4), 0);
        due.is("may be undone, 8 at most", y.count(7), 8);
        due.is("the HOUR then", y.undo(), 9998);
        due.is("DEEDS again", y.count(3), 12);
        due.is("their lengths again", y.count(4), lengths);
        due.is("what -1", y.forget(-1), BAD);
        due.is("what 3", y.forget(3), BAD);
    }

    // ---- winds

    private static void wind(CrowMiles x, int a, int b, int odds, long above, long below) {
        String told = "from " + a + " to " + b + " by " + odds;
        due.is(told, x.wind(0, a, b, odds), 1);
        due.is(told + ", above", x.part(0), above);
        due.is(told + ", below", x.part(1), below);
    }

    private static void windOdds() {
        due.says("WIND: by c of 10 (0 .. 10) it is half as FAR again (cut): how FAR it is from a to b by a CROW, in the mean: "
                + "THE FRACTION.");
        CrowMiles x = Due.told("country;place 0 0 0;place 0 1 0;crow 0 0;");
        wind(x, 0, 1, 0, 10, 1);
        wind(x, 0, 1, 1, 21, 2);
        wind(x, 0, 1, 2, 11, 1);
        wind(x, 0, 1, 9, 29, 2);
        wind(x, 0, 1, 10, 15, 1);
        due.is("by -1", x.wind(0, 0, 1, -1), BAD);
        due.is("by 11", x.wind(0, 0, 1, 11), BAD);
        due.is("above stays", x.part(0), 15);
        due.is("below stays", x.part(1), 1);
        wind(x, 0, 0, 10, 0, 1);
    }

    private static void windCut() {
        due.says("it is half as FAR again (cut)");
        // to elms at the spot it is 1, at 1 from it 3
        CrowMiles x = Due.told("country;place 0 0 0;place 1 0 0;place 1 1 0;place 0 0 0;crow 0 0;");
        wind(x, 0, 1, 0, 1, 1);
        wind(x, 0, 1, 10, 1, 1);
        wind(x, 0, 1, 5, 1, 1);
        wind(x, 0, 2, 0, 3, 1);
        wind(x, 0, 2, 10, 4, 1);
        wind(x, 0, 2, 1, 31, 10);
        wind(x, 0, 2, 9, 39, 10);
        wind(x, 0, 3, 7, 0, 1);
    }

    private static void windLowestTerms() {
        due.says("THE FRACTION is 0 by 1 at first; lowest terms, below above 0.");
        CrowMiles x = Due.told("country;place 0 0 0;place 1 1 0;place 3 9 9;crow 3 0;");
        due.is("above at first", x.part(0), 0);
        due.is("below at first", x.part(1), 1);
        wind(x, 0, 1, 2, 16, 5);
        wind(x, 0, 1, 5, 7, 2);
        wind(x, 0, 1, 4, 17, 5);
        wind(x, 0, 0, 3, 0, 1);
        for (int i = 0; i < 101; i++) {
            x.flies(0, 1 - i % 2);
        }
        x.hours(21);
        // 414 made at hour 122, 2 of a day: 420 to sheep, 525, with wind 787
        wind(x, 0, 2, 0, 525, 1);
        wind(x, 0, 2, 10, 787, 1);
        wind(x, 0, 2, 1, 2756, 5);
        wind(x, 0, 2, 5, 656, 1);
    }

    // ---- years

    private static void yearsNumbers() {
        due.says("YEARS by a SEED (0 .. 999999), n (0 .. 60), HOURS going beyond 9999");
        CrowMiles x = Due.told(ROW + "crow 0 0;crow 0 0;crow 0 0;");
        due.is("seed -1", x.years(-1, 1), BAD);
        due.is("seed 1000000", x.years(1000000, 1), BAD);
        due.is("n -1", x.years(1, -1), BAD);
        due.is("n 61", x.years(1, 61), BAD);
        int[] seeds = {0, 1, 999998, 999999};
        int[][] want = {{0, 1300, 1350}, {0, 1200, 1220}, {0, 1300, 1340}, {0, 1350, 1360}};
        for (int i = 0; i < seeds.length; i++) {
            due.is("years(" + seeds[i] + ", 0)", x.years(seeds[i], 0), want[i][0]);
            due.is("years(" + seeds[i] + ", 59)", x.years(seeds[i], 59), want[i][1]);
            due.is("years(" + seeds[i] + ", 60)", x.years(seeds[i], 60), want[i][2]);
        }
        due.is("in no country", new CrowMiles().years(999999, 60), 0);
    }

    /** Where the three go, one by one, in a row of fields 10 apart: X is beyond 2147483648 before it is cut. */
    private static void yearsBySeed() {
        due.says("X is SEED at first; n times X becomes X times 1103515245 and 12345, by 2147483648 what is left over");
        CrowMiles x = Due.told(ROW + "crow 0 0;crow 0 0;crow 0 0;");
        // X is 12345, 1406932606, 654583775, ..: 0 rests; 0 to 4; 1 to 1, to 3; 0 to 1; 1 to 0, to 1; 1 rests; 2 to 1
        int[] zero = {0, 0, 40, 50, 70, 100, 130, 140, 140, 150};
        // X is 1103527590, 377401575, ..: 2 to 2; 1 to 2; 0 to 2; 1 rests; 1 to 1; 2 to 1; 0 to 3, to 1, to 5
        int[] one = {0, 20, 40, 60, 60, 70, 80, 90, 110, 150};
        // X is 1751684876, 836118613, ..: 1 to 4; 2 to 6; 1 to 3, to 6; 1 rests; 2 to 2, to 5, to 1; 0 to 1
        int[] most = {0, 40, 100, 110, 140, 140, 180, 210, 250, 260};
        for (int n = 0; n < zero.length; n++) {
            due.is("years(0, " + n + ")", x.years(0, n), zero[n]);
            due.is("years(1, " + n + ")", x.years(1, n), one[n]);
            due.is("years(999999, " + n + ")", x.years(999999, n), most[n]);
        }
        due.is("nothing is changed", x.count(2) + x.count(3) + x.count(7), 0);
    }

    /** Seeds whose first X is a multiple, or beside one: a plain one makes 10, a certified one 9, a hungry one 5 more. */
    private static void yearsCut() {
        due.says("flies to PLACE X by 1048576 (cut), by 7 left over");
        CrowMiles x = Due.told(ROW + "crow 0 0;crow 4 0;crow 1 0;hours 12;");
        due.is("X is 1605 times 1048576: 0 to 2", x.years(501379, 1), 20);
        due.is("X is 969 times 1048576, and 1: 0 to 3", x.years(102888, 1), 30);
        due.is("X is 193 times 1048576, less 1: 0 to 3", x.years(899870, 1), 30);
        due.is("X is 1232 times 1048576, less 2: 1 to 6", x.years(249785, 1), 54);
        due.says("CROW X by 65536 (cut), by 3 left over");
        due.is("X is 27761 times 65536: 2 to 6", x.years(829059, 1), 65);
        due.is("X is 3522 times 65536: 0 to 3", x.years(108163, 1), 30);
        due.is("X is 11617 times 65536, less 1: 0 to 5", x.years(178974, 1), 50);
        due.is("X is 15779 times 65536, less 1: 1 to 6", x.years(834334, 1), 54);
        due.says("by 2147483648 what is left over");
        due.is("X is 2147482477, the most there is: 1 to 3", x.years(518020, 1), 27);
        due.is("X is 2208, the least there is: 0 stays at 0", x.years(388515, 1), 0);
    }

    private static void yearsCrowNotThere() {
        due.says("CROW X by 65536 (cut), by 3 left over (not there: the HOUR is one more)");
        // by seed 1: crow 2, 1, 0, ..; a hungry one at 0 is let go first at hour 2 more
        CrowMiles x = Due.told(ROW + "crow 1 0;hours 9;");
        due.is("at hour 11", x.years(1, 3), 20);
        x.hours(1);
        due.is("at hour 12", x.years(1, 3), 25);
        // and none at all
        CrowMiles y = Due.told(ROW);
        due.is("no CROW", y.years(1, 60), 0);
    }

    private static void yearsRest() {
        due.says("flies to PLACE X by 1048576 (cut), by 7 left over, if that is there and another one, else she rests");
        // by seed 999998 crow 2 goes to 2, crow 0 to 1
        CrowMiles x = Due.told("country;place 0 0 0;place 0 1 0;crow 0 0;crow 0 1;crow 0 1;");
        due.is("PLACE 2 is not there: she rests", x.years(999998, 1), 0);
        due.is("PLACE 1 is", x.years(999998, 2), 10);
        // by seed 999999 crow 1 goes to 4, crow 2 to 6
        due.is("PLACE 4 is far from there", x.years(999999, 1), 0);
        due.is("PLACE 6 too", x.years(999999, 2), 0);
        // what was there in another country is not there
        CrowMiles smaller = Due.told(ROW + "crow 0 0;crow 0 0;crow 0 0;");
        due.is("PLACE 2 is there", smaller.years(999998, 1), 20);
        Due.read(smaller, "country;place 0 0 0;place 0 1 0;crow 0 0;crow 0 1;crow 0 1;");
        due.is("PLACE 2 is there no more", smaller.years(999998, 1), 0);
        CrowMiles y = Due.told("country;place 0 0 0;place 0 1 0;place 0 2 0;crow 0 0;crow 0 0;crow 0 0;");
        due.is("PLACE 2 is there", y.years(999998, 1), 20);
        y.flies(2, 2);
        due.is("she is there: she rests", y.years(999998, 1), 0);
        // by seed 0 crow 0 is told to go to 0, then to 4: a rest of 8 hours is behind the first
        CrowMiles rested = Due.told(ROW + "crow 1 0;crow 0 0;crow 0 0;hours 3;");
        due.is("let go at 11", rested.years(0, 2), 40);
        rested.hours(1);
        due.is("let go at 12", rested.years(0, 2), 45);
        // tired by 2, at 0 again: the rest takes that away
        CrowMiles tired = Due.told(ROW + "crow 2 0;crow 0 0;crow 0 0;");
        tired.flies(0, 1);
        tired.flies(0, 0);
        due.is("TIRED by 2, rested", tired.years(0, 2), 40);
        // by seed 1 crow 0 goes to 2, 3, 1, 5, 3: each flight makes her more tired
        CrowMiles more = Due.told(ROW + "crow 2 0;crow 0 0;crow 0 0;");
        due.is("TIRED by each flight", more.years(1, 9), 150 + 3 + 6 + 9);
    }

    private static void yearsBeyondTheLastHour() {
        due.says("HOURS going beyond 9999");
        String text = ROW + "crow 1 0;crow 3 0;crow 2 0;";
        int[] hours = {9998, 9999};
        for (int hour : hours) {
            CrowMiles late = Due.told(text);
            Lands.waitTill(late, hour);
            CrowMiles early = Due.told(text);
            Lands.waitTill(early, hour % 24);
            for (int n : new int[] {1, 2, 10, 59, 60}) {
                due.is("at " + hour + ", " + n + " as at that hour of the first day", late.years(1, n), early.years(1, n));
                due.is("at " + hour + ", " + n + " by another seed", late.years(999999, n), early.years(999999, n));
            }
            due.is("the HOUR stays", late.count(2), hour);
        }
        // by seed 0 the hungry one rests from 15 till 23 of a day, goes 40, and behind two flights of 1 goes 30 at 2 of a day
        CrowMiles x = Due.told(ROW + "crow 1 0;crow 0 0;crow 0 0;");
        Lands.waitTill(x, 9999);
        due.is("23 of a day", x.years(0, 2), 45);
        due.is("2 of a day", x.years(0, 5), 45 + 10 + 20 + 30);
    }
}
