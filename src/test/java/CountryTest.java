/** Promises 1 to 7: a new object, country, place, crow, type, clear, read. */
public final class CountryTest {
    private static final Due due = new Due("CountryTest");

    public static void main(String[] args) {
        newObject();
        country();
        place();
        crow();
        type();
        clear();
        readItems();
        readFaults();
        readToTheEndAlone();
        readTakesThePlaceOfAllButSome();
        due.end();
    }

    private static void newObject() {
        CrowMiles x = new CrowMiles();
        for (int what = 0; what <= 8; what++) {
            due.is("1: count(" + what + ")", x.count(what), 0);
        }
        due.is("1: part(0)", x.part(0), 0);
        due.is("1: part(1)", x.part(1), 1);
        due.is("1: undo()", x.undo(), CrowMiles.NO);
        due.is("1: from(0)", x.from(0), CrowMiles.NO);
        due.is("1: from(1)", x.from(1), CrowMiles.NO);
        due.is("1: status(0)", x.status(0), 0);
        due.is("1: status(1)", x.status(1), 3);
        due.is("1: status(2)", x.status(2), 0);
        due.is("1: about(0, 0)", x.about(0, 0), CrowMiles.BAD);
        due.is("1: of(0, 0)", x.of(0, 0), CrowMiles.BAD);
        CrowMiles other = new CrowMiles();
        x.place(0, 0, 0);
        due.is("1: another object's count(0)", other.count(0), 0);
    }

    private static void country() {
        CrowMiles x = new CrowMiles();
        due.is("2: country() of none", x.country(), 0);
        due.is("2: read()", Due.read(x, "country;place 0 0 0;place 1 3 4;crow 3 0;fly 0 1;"), 5);
        x.note(0, 1, 2, 3);
        x.mark(0, 1, 2, 3, 4);
        x.hours(5);
        x.wind(0, 0, 1, 1);
        x.image(1);
        x.place(9, 9, 9);
        long above = x.part(0);
        due.is("2: country()", x.country(), 2);
        for (int what = 0; what <= 7; what++) {
            due.is("2: count(" + what + ") behind", x.count(what), 0);
        }
        due.is("2: THE TEXT stays", x.count(8), 49);
        due.is("2: THE FRACTION stays", x.part(0), above);
        due.is("2: STATUS stays", x.status(0), 1);
        due.is("2: undo() behind", x.undo(), CrowMiles.NO);
        due.is("2: a CROW at none", x.crow(0, 0), CrowMiles.BAD);
        due.is("2: IMAGES stay", x.from(1), 1);
        due.is("2: count(0) of the IMAGE", x.count(0), 2);
        due.is("2: country() again", x.country(), 2);
        due.is("2: a PLACE anew", x.place(4, 2, 2), 0);
        due.is("2: a CROW anew", x.crow(4, 0), 0);
        due.is("2: a CROW anew is not TIRED", x.of(0, 2), 0);
        due.is("2: a PLACE anew has no NOTES", x.is(0), 63);
        due.is("2: a CROW anew has no MARKS", x.kinds(0), 63);
    }

    private static void place() {
        CrowMiles x = new CrowMiles();
        int[][] bad = {{-1, 0, 0}, {6, 0, 0}, {0, -1, 0}, {0, 10, 0}, {0, 0, -1}, {0, 0, 10},
            {Integer.MIN_VALUE, 0, 0}, {0, Integer.MAX_VALUE, 0}, {0, 0, Integer.MIN_VALUE}};
        for (int[] b : bad) {
            due.is("3: place of a wrong number", x.place(b[0], b[1], b[2]), CrowMiles.BAD);
        }
        due.is("3: none came", x.count(0), 0);
        int[][] good = {{0, 0, 0}, {5, 9, 9}, {1, 0, 9}, {2, 9, 0}, {3, 4, 5}, {4, 5, 4}, {0, 0, 0}};
        for (int i = 0; i < 7; i++) {
            due.is("3: place " + i, x.place(good[i][0], good[i][1], good[i][2]), i);
        }
        for (int i = 0; i < 7; i++) {
            for (int what = 0; what < 3; what++) {
                due.is("3: about(" + i + ", " + what + ")", x.about(i, what), good[i][what]);
            }
        }
        due.is("3: an 8th", x.place(0, 0, 0), CrowMiles.FULL);
        due.is("3: BAD comes ahead of FULL", x.place(6, 0, 0), CrowMiles.BAD);
        due.is("3: still 7", x.count(0), 7);
        due.is("3: BADs", x.status(0), bad.length + 1);
        due.is("3: FULLs", x.status(2), 1);
        x.hours(1);
        due.is("3: a refused one", x.place(0, 0, 0), CrowMiles.FULL);
        due.is("3: leaves what may be undone", x.count(7), 1);
        CrowMiles y = new CrowMiles();
        y.hours(1);
        y.place(0, 10, 0);
        due.is("3: a BAD one leaves what may be undone", y.count(7), 1);
        y.place(0, 0, 0);
        due.is("3: behind one that comes none may be", y.count(7), 0);
        due.is("3: undo() behind one", y.undo(), CrowMiles.NO);
        due.is("3: the HOUR stays", y.count(2), 1);
    }

    private static void crow() {
        CrowMiles x = new CrowMiles();
        due.is("4: no PLACE", x.crow(0, 0), CrowMiles.BAD);
        x.place(0, 0, 0);
        x.place(0, 1, 1);
        due.is("4: KIND -1", x.crow(-1, 0), CrowMiles.BAD);
        due.is("4: KIND 6", x.crow(6, 0), CrowMiles.BAD);
        due.is("4: PLACE -1", x.crow(0, -1), CrowMiles.BAD);
        due.is("4: PLACE 2", x.crow(0, 2), CrowMiles.BAD);
        due.is("4: crow(5, 1)", x.crow(5, 1), 0);
        due.is("4: crow(0, 0)", x.crow(0, 0), 1);
        x.hours(3);
        due.is("4: crow(3, 1)", x.crow(3, 1), 2);
        due.is("4: behind one that comes none may be undone", x.count(7), 0);
        int[][] want = {{5, 1, 0}, {0, 0, 0}, {3, 1, 0}};
        for (int c = 0; c < 3; c++) {
            for (int what = 0; what < 3; what++) {
                due.is("4: of(" + c + ", " + what + ")", x.of(c, what), want[c][what]);
            }
        }
        x.hours(1);
        due.is("4: a 4th", x.crow(0, 0), CrowMiles.FULL);
        due.is("4: BAD comes ahead of FULL", x.crow(0, 2), CrowMiles.BAD);
        due.is("4: a refused one leaves what may be undone", x.count(7), 1);
        due.is("4: still 3", x.count(1), 3);
        due.is("4: FULLs", x.status(2), 1);
        due.is("4: BADs", x.status(0), 6);
    }

    private static void type() {
        CrowMiles x = new CrowMiles();
        due.is("5: -1", x.type(-1), CrowMiles.BAD);
        due.is("5: 128", x.type(128), CrowMiles.BAD);
        due.is("5: 0", x.type(0), 1);
        due.is("5: 127", x.type(127), 2);
        for (int i = 3; i <= 150; i++) {
            due.is("5: byte " + i, x.type(32), i);
        }
        due.is("5: a 151st", x.type(32), CrowMiles.FULL);
        due.is("5: BAD comes ahead of FULL", x.type(256), CrowMiles.BAD);
        due.is("5: count(8)", x.count(8), 150);
        due.is("5: FULLs", x.status(2), 1);
        due.is("5: BADs", x.status(0), 3);
        CrowMiles y = new CrowMiles();
        y.type('c');
        y.type(256 + 'o');
        due.is("5: 367 is no o", y.count(8), 1);
    }

    private static void clear() {
        CrowMiles x = new CrowMiles();
        due.is("6: of none", x.clear(), 0);
        x.type(99);
        x.type(99);
        due.is("6: of two", x.clear(), 2);
        due.is("6: again", x.clear(), 0);
        due.is("6: count(8)", x.count(8), 0);
        due.is("6: typed behind it", x.type(1), 1);
    }

    private static void readItems() {
        items("country;", 1);
        items("  country  ;  ", 1);
        items("country;hours 1;", 2);
        items("country;hours 99;hours 01;", 3);
        items("country;place0 0 0;", 2);
        items("country;place 00 09 9;", 2);
        items("country ;place 5 9 9 ;crow 5 0 ; rest 0;", 4);
        items("country;place 0 0 0;place 0 0 0;crow 0 1;fly 0 0;fly 0 1;rest 0;", 7);
        String seven = "country;place 0 0 0;place 0 0 0;place 0 0 0;place 0 0 0;place 0 0 0;place 0 0 0;place 0 0 0;";
        items(seven, 8);
        items(seven + "crow 0 6;crow 0 5;crow 0 4;", 11);

        CrowMiles x = Due.told("country;place 2 1 2;place 4 8 09;crow 3 1;crow 1 0;fly 0 0;hours 12;fly 1 1;rest 0;");
        due.is("7: PLACES", x.count(0), 2);
        due.is("7: CROWS", x.count(1), 2);
        due.is("7: the HOUR", x.count(2), 1 + 12 + 1 + 8);
        due.is("7: DEEDS", x.count(3), 2);
        due.is("7: nothing to undo", x.count(7), 0);
        due.is("7: THE TEXT stays", x.count(8), 83);
        due.is("7: about(0, 0)", x.about(0, 0), 2);
        due.is("7: about(0, 1)", x.about(0, 1), 1);
        due.is("7: about(0, 2)", x.about(0, 2), 2);
        due.is("7: about(1, 2)", x.about(1, 2), 9);
        due.is("7: of(0, 1)", x.of(0, 1), 0);
        due.is("7: of(0, 2) behind a rest", x.of(0, 2), 0);
        due.is("7: of(1, 0)", x.of(1, 0), 1);
        due.is("7: of(1, 1)", x.of(1, 1), 1);
        due.is("7: of(1, 2)", x.of(1, 2), 1);
        // 14 straight: a walker of 140 to the sheep at hour 0
        due.is("7: book(0, 0)", x.book(0, 0), 100);
        due.is("7: book(0, 1)", x.book(0, 1), 144);
        // a hungry one of 145 to the friend at hour 13
        due.is("7: book(1, 0)", x.book(1, 0), 10);
        due.is("7: book(1, 1)", x.book(1, 1), 138);

        CrowMiles y = Due.told("country;place 0 0 0;place 0 9 0;crow 2 0;fly 0 1;fly 0 0;fly 0 1;fly 0 0;fly 0 1;fly 0 0;"
                + "fly 0 1;fly 0 0;fly 0 1;fly 0 0;fly 0 1;fly 0 0;");
        due.is("7: 12 flights", y.count(3), 12);
        y = Due.told("country;place0 0 0;place0 9 0;crow0 0;fly0 1;fly0 0;fly0 1;fly0 0;fly0 1;fly0 0;fly0 1;fly0 0;"
                + "fly0 1;fly0 0;fly0 1;fly0 0;fly0 1;");
        due.is("7: 13 flights, the first forgotten", y.count(3), 12);
        due.is("7: so the first is back", y.book(0, 0), 100);
        due.is("7: TIRED by 13", y.of(0, 2), 13);
    }

    private static void items(String text, int want) {
        due.is("7: read \"" + text + "\"", Due.read(new CrowMiles(), text), want);
    }

    private static void fault(String text, int at) {
        CrowMiles x = new CrowMiles();
        x.place(1, 2, 3);
        x.crow(4, 0);
        x.hours(7);
        x.note(0, 1, 2, 3);
        Due.type(x, text);
        long before = x.digest();
        due.is("7: read \"" + text + "\"", x.read(), -10 - at);
        due.is("7: all stays behind \"" + text + "\"", x.digest(), before);
        due.is("7: no refusal is counted", x.status(0) + x.status(1) + x.status(2), 0);
    }

    private static void readFaults() {
        fault("", 0);
        fault("   ", 3);
        fault("country", 7);
        fault("country  ", 9);
        fault("countr", 0);
        fault("countrys;", 0);
        fault("country2;", 7);
        fault(" Country;", 1);
        fault(";country;", 0);
        fault("7", 0);
        fault("place 0 0 0;country;", 0);
        fault("country;country;", 8);
        fault("country;;", 8);
        fault("country;5;", 8);
        fault("country;towns 1;", 8);
        fault("country;plac", 8);
        fault("country;place", 13);
        fault("country;place;", 13);
        fault("country;place 6 0 0;", 14);
        fault("country;place 0 10 0;", 16);
        fault("country;place 0 9 10;", 18);
        fault("country;place 0 9 9", 19);
        fault("country;place 0 9 9 ", 20);
        fault("country;place 0 9 9 9;", 20);
        fault("country;place 0 9 9 place", 20);
        fault("country;place 0 009 9;", 16);
        fault("country;place 0000 9 9;", 14);
        fault("country;place 0 9;", 17);
        fault("country;place x 9 9;", 14);
        fault("country;crow 0 0;", 15);
        fault("country;crow 6 0;", 13);
        fault("country;place 0 0 0;crow 0 1;", 27);
        fault("country;fly 0 0;", 12);
        fault("country;rest 0;", 13);
        fault("country;place 0 0 0;crow 0 0;fly 1 0;", 33);
        fault("country;place 0 0 0;crow 0 0;fly 0 0;", 35);
        fault("country;place 0 0 0;crow 0 0;fly 0 1;", 35);
        fault("country;place 0 0 0;place 0 1 1;crow 0 0;fly 0 1;fly 0 1;", 55);
        fault("country;place 0 0 0;crow 0 0;rest 1;", 34);
        fault("country;hours 0;", 14);
        fault("country;hours 00;", 14);
        fault("country;hours 100;", 14);
        fault("country;hours 1 ", 16);
        fault("country;hours -1;", 14);
        fault("country;hours" + (char) 9 + "1;", 13);
        fault("country;hours 1;" + (char) 0, 16);
        fault("country;hours 1;" + (char) 127, 16);
        fault("country;hours 1:", 15);
        fault("country;hours 1/", 15);
        fault("country;hours`1;", 13);
        fault("country;hours{1;", 13);
        String seven = "country;place 0 0 0;place 0 0 0;place 0 0 0;place 0 0 0;place 0 0 0;place 0 0 0;place 0 0 0;";
        fault(seven + "place 0 0 0;", 92);
        fault(seven + "place", 92);
        fault("country;place 0 0 0;crow 0 0;crow 0 0;crow 0 0;crow 0 0;", 47);
        fault("country;hours 1;country;", 16);
    }

    private static void readToTheEndAlone() {
        CrowMiles x = new CrowMiles();
        due.is("7: a longer text first", Due.read(x, "country;hours 12;hours  4;"), 3);
        due.is("7: its figures are gone", Due.read(x, "country;hours 1"), -25);
        due.is("7: its letters are gone", Due.read(x, "country;hou"), -18);
        due.is("7: its blanks are gone", Due.read(x, "country;hours 12;hours "), -33);
        due.is("7: its ends are gone", Due.read(x, "country;hours 12"), -26);
        due.is("7: its items are gone", Due.read(x, "country;"), 1);
        StringBuilder blanks = new StringBuilder("country;");
        while (blanks.length() < 150) {
            blanks.append(' ');
        }
        items(blanks.toString(), 1);
        blanks.setCharAt(149, '7');
        fault(blanks.toString(), 149);
        blanks.setCharAt(149, 'z');
        fault(blanks.toString(), 149);
        blanks.replace(142, 150, "hours 12");
        fault(blanks.toString(), 150);
        blanks.replace(142, 150, "hours 1;");
        items(blanks.toString(), 2);
        fault("zountry;", 0);
        fault("country;zours 1;", 8);
        fault("country;hoursz 1;", 8);
        fault("country;hoursa 1;", 8);
        fault("country;0hours 1;", 8);
        fault("country;horsz 1;", 8);
        fault("country;place 0 0 0;crow 0 0;fly 0z;", 34);
    }

    private static void readTakesThePlaceOfAllButSome() {
        CrowMiles x = Due.told("country;place 0 0 0;place 1 5 5;crow 0 0;fly 0 1;");
        x.note(0, 1, 2, 3);
        x.mark(0, 1, 2, 3, 4);
        x.wind(0, 0, 1, 10);
        x.image(0);
        x.hours(9);
        x.rests(7);
        due.is("7: read()", Due.read(x, "country;hours 3;"), 2);
        int[] want = {0, 0, 3, 0, 0, 0, 0, 0, 16};
        for (int what = 0; what <= 8; what++) {
            due.is("7: count(" + what + ") behind", x.count(what), want[what]);
        }
        due.is("7: undo() behind", x.undo(), CrowMiles.NO);
        due.is("7: THE FRACTION stays", x.part(0), 139);
        due.is("7: STATUS stays", x.status(0), 1);
        due.is("7: read() again", x.read(), 2);
        due.is("7: it begins anew", x.count(2), 3);
        due.is("7: IMAGES stay", x.from(0), 1);
        due.is("7: count(5) of the IMAGE", x.count(5), 1);
        due.is("7: count(6) of the IMAGE", x.count(6), 1);
    }
}
