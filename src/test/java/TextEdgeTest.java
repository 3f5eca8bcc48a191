/** Texts at their limits: every item, every token and every fault that the document names, promises 5 to 7. */
public final class TextEdgeTest {
    private static final Due due = new Due("TextEdgeTest");
    private static final int FULL = CrowMiles.FULL;
    private static final String SEVEN = "country;place 0 0 0;place 0 0 0;place 0 0 0;place 0 0 0;place 0 0 0;place 0 0 0;"
        + "place 0 0 0;";
    private static final String THREE_CROWS = "country;place 0 0 0;crow 0 0;crow 0 0;crow 0 0;";
    private static final String TWO = "country;place 0 0 0;place 0 9 9;crow 0 0;";

    public static void main(String[] args) {
        longest();
        items();
        eachEnded();
        countryOnceAndFirst();
        placeNumbers();
        crowNumbers();
        flyNumbers();
        restNumbers();
        hoursNumbers();
        words();
        figures();
        blanks();
        wordThatIsNone();
        countryAgain();
        anythingAheadOfIt();
        eighthPlaceFourthCrow();
        threeFigures();
        numberNotAsTold();
        notThereYet();
        whereTheCrowIs();
        byteThatBeginsNone();
        endsTooEarly();
        everyPrefix();
        firstFault();
        allStays();
        takesThePlace();
        clear();
        due.end();
    }

    /** A text that is read: so many items. */
    private static CrowMiles read(String text, int items) {
        CrowMiles x = new CrowMiles();
        due.is("read \"" + text + "\"", Due.read(x, text), items);
        return x;
    }

    /** A text that is at fault where the part behind it begins. */
    private static void fault(String good, String wrong) {
        due.is("read \"" + good + "|" + wrong + "\"", Due.read(new CrowMiles(), good + wrong), -10 - good.length());
    }

    private static String filled(String text, int length) {
        StringBuilder all = new StringBuilder(text);
        while (all.length() < length) {
            all.append(' ');
        }
        return all.toString();
    }

    // ---- a text and its items

    private static void longest() {
        due.says("A byte (0 .. 127) comes behind THE TEXT: how many it has. BAD; FULL.");
        CrowMiles x = new CrowMiles();
        String text = filled(SEVEN, 142) + "hours 9;";
        for (int i = 0; i < 148; i++) {
            x.type(text.charAt(i));
        }
        due.is("byte 149", x.type(text.charAt(148)), 149);
        due.is("read 149", x.read(), -159);
        due.is("byte 150", x.type(text.charAt(149)), 150);
        due.is("byte 151", x.type('x'), FULL);
        due.is("how many it has", x.count(8), 150);
        due.is("read 150", x.read(), 9);
        due.is("the last byte counts", x.count(2), 9);
        due.says("THE COUNTRY is told by a TEXT (150 bytes at most) of ITEMS");
        read(filled("country;", 149), 1);
        read(filled("country;", 150), 1);
        fault(filled("country;", 149), "x");
        fault(filled("country;hours 9", 150), "");
        fault(filled("country;", 143) + "hours 9", "");
        fault(filled("country;", 145) + "hours", "");
        fault(filled("country;", 146), "hour");
        fault(filled("country;hours", 148) + "99", "");
        fault(filled("country;hours", 149) + "9", "");
    }

    private static void items() {
        due.says("THE COUNTRY is read: how many ITEMS.");
        read("country;", 1);
        read("country;hours 1;", 2);
        read("country;place 0 0 0;hours 1;", 3);
        read(TWO + "fly 0 1;rest 0;hours 1;", 7);
        // as many as there is room for
        StringBuilder most = new StringBuilder("country;");
        while (most.length() + 8 <= 150) {
            most.append("hours1;");
        }
        CrowMiles x = read(most.toString(), 21);
        due.is("the HOUR behind 20 items", x.count(2), 20);
    }

    private static void eachEnded() {
        due.says("each ended by ;");
        for (String item : new String[] {"place 0 0 0", "crow 0 1", "fly 0 1", "rest 0", "hours 1"}) {
            read(TWO + item + ";", 5);
            read(TWO + item + " ; ", 5);
            fault(TWO + item, "");
            fault(TWO + item + " ", "hours 1;");
            fault(TWO + item + " ", ":");
            fault(TWO + item + ";", ";");
        }
        fault("country", "");
        fault("country ", "hours 1;");
    }

    private static void countryOnceAndFirst() {
        due.says("country (once, first of all)");
        CrowMiles x = read("country;", 1);
        for (int what = 0; what <= 7; what++) {
            due.is("count(" + what + ") behind it", x.count(what), 0);
        }
        fault("country;", "country;");
        fault("", "hours 1;country;");
    }

    private static void placeNumbers() {
        due.says("place KIND X Y");
        CrowMiles x = read("country;place 0 0 0;place 5 9 9;place 1 8 0;place 4 0 8;", 5);
        int[][] want = {{0, 0, 0}, {5, 9, 9}, {1, 8, 0}, {4, 0, 8}};
        for (int p = 0; p < want.length; p++) {
            for (int what = 0; what < 3; what++) {
                due.is("about(" + p + ", " + what + ")", x.about(p, what), want[p][what]);
            }
        }
        fault("country;place ", "6 0 0;");
        fault("country;place 5 ", "10 0;");
        fault("country;place 5 9 ", "10;");
        fault("country;place 5 9 9 ", "9;");
        fault("country;place 5 9", ";");
        fault("country;place 5", ";");
        fault("country;place", ";");
    }

    private static void crowNumbers() {
        due.says("crow KIND p");
        CrowMiles x = read("country;place 0 0 0;place 0 1 1;crow 0 0;crow 5 1;", 5);
        int[][] want = {{0, 0, 0}, {5, 1, 0}};
        for (int c = 0; c < want.length; c++) {
            for (int what = 0; what < 3; what++) {
                due.is("of(" + c + ", " + what + ")", x.of(c, what), want[c][what]);
            }
        }
        fault("country;place 0 0 0;crow ", "6 0;");
        fault("country;place 0 0 0;crow 5 0 ", "0;");
        fault("country;place 0 0 0;crow 5", ";");
        fault("country;place 0 0 0;crow", ";");
        read(SEVEN + "crow 0 6;", 9);
        fault(SEVEN + "crow 0 ", "7;");
    }

    private static void flyNumbers() {
        due.says("fly c p");
        CrowMiles x = read(TWO + "crow 1 1;crow 2 0;fly 2 1;fly 1 0;fly 0 1;", 9);
        due.is("DEEDS", x.count(3), 3);
        due.is("the HOUR", x.count(2), 3);
        int[][] want = {{1, 1}, {0, 1}, {1, 1}};
        for (int c = 0; c < 3; c++) {
            due.is("PLACE of " + c, x.of(c, 1), want[c][0]);
            due.is("TIRED of " + c, x.of(c, 2), want[c][1]);
        }
        fault(TWO + "fly ", "1 1;");
        fault(TWO + "fly 0 ", "2;");
        fault(TWO + "fly 0 1 ", "0;");
        fault(TWO + "fly 0", ";");
        fault(TWO + "fly", ";");
        CrowMiles y = read("country;place0 0 0;place0 1 0;crow0 0;fly0 1;fly0 0;fly0 1;fly0 0;fly0 1;fly0 0;fly0 1;fly0 0;"
                + "fly0 1;fly0 0;fly0 1;fly0 0;", 16);
        due.is("12 DEEDS", y.count(3), 12);
        due.is("the first", y.book(0, 0), 10);
        y = read("country;place0 0 0;place0 1 0;crow0 0;fly0 1;fly0 0;fly0 1;fly0 0;fly0 1;fly0 0;fly0 1;fly0 0;"
                + "fly0 1;fly0 0;fly0 1;fly0 0;fly0 1;", 17);
        due.is("13 of them: 12 DEEDS", y.count(3), 12);
        due.is("the second is the first", y.book(0, 0), 100);
        due.is("TIRED by 13", y.of(0, 2), 13);
    }

    private static void restNumbers() {
        due.says("rest c");
        CrowMiles x = read(TWO + "crow 1 1;fly 0 1;fly 1 0;rest 1;", 8);
        due.is("TIRED of 0", x.of(0, 2), 1);
        due.is("TIRED of 1", x.of(1, 2), 0);
        due.is("the HOUR", x.count(2), 10);
        fault(TWO + "rest ", "1;");
        fault(TWO + "rest 0 ", "0;");
        fault(TWO + "rest", ";");
    }

    private static void hoursNumbers() {
        due.says("hours n (1 .. 99)");
        fault("country;hours ", "0;");
        due.is("hours 1", read("country;hours 1;", 2).count(2), 1);
        due.is("hours 2", read("country;hours 2;", 2).count(2), 2);
        due.is("hours 98", read("country;hours 98;", 2).count(2), 98);
        due.is("hours 99", read("country;hours 99;", 2).count(2), 99);
        due.is("hours 99 twice", read("country;hours 99;hours 99;", 3).count(2), 198);
        fault("country;hours ", "100;");
        fault("country;hours 1 ", "1;");
        fault("country;hours", ";");
    }

    // ---- tokens

    private static void words() {
        due.says("words of letters a .. z");
        for (char c = 0; c < 128; c++) {
            boolean isLetter = c >= 'a' && c <= 'z';
            if (isLetter) {
                fault("country;", "hours" + c + " 1;");
                fault("country;", c + "hours 1;");
            } else if (c != ' ') {
                fault("country;", c + "hours 1;");
            }
        }
        read("country; hours 1;", 2);
    }

    private static void figures() {
        due.says("figures (1 or 2 are one number)");
        due.is("1", read("country;hours 1;", 2).count(2), 1);
        due.is("01", read("country;hours 01;", 2).count(2), 1);
        due.is("10", read("country;hours 10;", 2).count(2), 10);
        due.is("09", read("country;hours 09;", 2).count(2), 9);
        due.is("90", read("country;hours 90;", 2).count(2), 90);
        fault("country;hours ", "00;");
        fault("country;hours ", "001;");
        fault("country;hours 1 ", "2;");
        due.is("two figures each", read("country;place 05 09 00;", 2).about(0, 1), 9);
        fault("country;place 0 ", "12;");
        for (char c = '0'; c <= '9'; c++) {
            due.is("hours 1" + c, read("country;hours 1" + c + ";", 2).count(2), 10 + c - '0');
        }
    }

    private static void blanks() {
        due.says("blanks (32) between");
        CrowMiles x = read("  country  ;  place  5  9  8  ;  hours  12  ;  ", 3);
        due.is("KIND", x.about(0, 0), 5);
        due.is("X", x.about(0, 1), 9);
        due.is("Y", x.about(0, 2), 8);
        due.is("the HOUR", x.count(2), 12);
        read("country;hours1;", 2);
        read("country;place5 9 8;", 2);
        fault("country;", "hou rs 1;");
        fault("", "coun try;");
        for (char c = 0; c < 128; c++) {
            boolean isLetter = c >= 'a' && c <= 'z';
            if (c == ' ' || c >= '0' && c <= '9') {
                read("country;hours" + c + "1;", 2);
            } else if (!isLetter) {
                fault("country;hours", c + "1;");
            }
        }
    }

    // ---- faults

    private static void wordThatIsNone() {
        due.says("a word that is none");
        for (String word : new String[] {"p", "plac", "places", "crows", "cro", "flies", "fl", "rests", "res", "hour",
            "hourss", "countr", "countrys", "z", "ecalp"}) {
            fault("country;", word + ";");
            fault("country; ", word + " 0 0 0;");
        }
        fault("", "countr;");
        fault("", "countrys;");
        fault(" ", "kountry;");
    }

    private static void countryAgain() {
        due.says("country again");
        fault("country;", "country");
        fault("country; ", "country;");
        fault("country;hours 1;", "country;");
        fault(TWO, "country;");
        fault("country ", "country;");
    }

    private static void anythingAheadOfIt() {
        due.says("anything ahead of it");
        for (String word : new String[] {"place 0 0 0", "crow 0 0", "fly 0 0", "rest 0", "hours 1", "0", "99", "000", ";", "-", "x"}) {
            fault("", word + ";country;");
            fault("  ", word + ";country;");
        }
        read("  country;", 1);
    }

    private static void eighthPlaceFourthCrow() {
        due.says("an 8th place, a 4th crow at its word");
        due.is("PLACES", read(SEVEN, 8).count(0), 7);
        fault(SEVEN, "place 0 0 0;");
        fault(SEVEN, "place");
        fault(SEVEN, "place 9 9 9;");
        fault(SEVEN, "plac");
        due.is("CROWS", read(THREE_CROWS, 5).count(1), 3);
        fault(THREE_CROWS, "crow 0 0;");
        fault(THREE_CROWS, "crow");
        fault(THREE_CROWS, "crow 9 9;");
        read(THREE_CROWS + "place 0 0 0;", 6);
        read(SEVEN + "crow 0 0;", 9);
    }

    private static void threeFigures() {
        due.says("a run of three figures or more (at its first one)");
        read("country;hours 12;", 2);
        fault("country;hours ", "123;");
        fault("country;hours ", "000;");
        fault("country;hours ", "0001;");
        fault("country;hours ", "4294967297;");
        fault("country;hours ", "99999999999999999999;");
        fault("country;place ", "000 0 0;");
        fault("country;place 0 ", "000 0;");
        fault("country;place 0 0 ", "000;");
        fault("country;place 0 0 ", "000");
        fault("country", "123;");
        fault("country;", "123;");
    }

    private static void numberNotAsTold() {
        due.says("a number not as told");
        fault("country;place ", "6");
        fault("country;place ", "99 99 99;");
        fault("country;place 0 ", "10 10;");
        fault("country;place 0 0 ", "10");
        fault("country;place 0 0 0;crow ", "6 6;");
        fault("country;hours ", "0");
        fault("country;hours ", "00 ;");
        fault("country;hours ", "x;");
        fault("country;place 0 ", "place 0;");
    }

    private static void notThereYet() {
        due.says("also a PLACE, a CROW that is not there yet");
        fault("country;crow 0 ", "0;place 0 0 0;");
        fault("country;place 0 0 0;crow 0 ", "1;place 0 0 0;");
        read("country;place 0 0 0;crow 0 0;", 3);
        read("country;place 0 0 0;place 0 0 0;crow 0 1;", 4);
        fault("country;place 0 0 0;fly ", "0 0;crow 0 0;");
        fault("country;place 0 0 0;place 0 0 0;crow 0 0;fly ", "1 1;crow 0 0;");
        fault("country;place 0 0 0;crow 0 0;fly 0 ", "1;place 0 0 0;");
        read("country;place 0 0 0;crow 0 0;place 0 0 0;fly 0 1;", 5);
        fault("country;place 0 0 0;rest ", "0;crow 0 0;");
        fault("country;place 0 0 0;crow 0 0;rest ", "1;crow 0 0;");
        read("country;place 0 0 0;crow 0 0;crow 0 0;rest 1;", 5);
        fault(THREE_CROWS + "rest ", "3;");
        fault(THREE_CROWS + "fly ", "3 0;");
        fault(TWO + "fly ", "99 1;");
        // what is there in the object, not in the text, is not there
        CrowMiles x = Lands.full();
        x.clear();
        due.is("a CROW of the object's", Due.read(x, "country;rest 0;"), -23);
        due.is("a PLACE of the object's", Due.read(x, "country;crow 0 0;"), -25);
    }

    private static void whereTheCrowIs() {
        due.says("the PLACE where the CROW is (fly)");
        fault(TWO + "fly 0 ", "0;");
        read(TWO + "fly 0 1;", 5);
        fault(TWO + "fly 0 1;fly 0 ", "1;");
        read(TWO + "fly 0 1;fly 0 0;", 6);
        fault(TWO + "crow 0 1;fly 1 ", "1;");
        read(TWO + "crow 0 1;fly 1 0;fly 0 1;", 7);
    }

    private static void byteThatBeginsNone() {
        due.says("a byte that begins none");
        for (char c = 0; c < 128; c++) {
            boolean begins = c >= 'a' && c <= 'z' || c >= '0' && c <= '9' || c == ';' || c == ' ';
            if (!begins) {
                fault("", c + "country;");
                fault("country", c + ";");
                fault("country;", c + "");
                fault("country;hours ", c + "1;");
                fault("country;hours 1", c + ";");
                fault("country;hours 1;  ", c + "");
            }
        }
    }

    private static void endsTooEarly() {
        due.says("the TEXT's length, if it ends too early (an empty one, too)");
        for (String text : new String[] {"", " ", "     ", "country", "country   ", "country;place", "country;place ",
            "country;place 0", "country;place 0 9", "country;place 0 9 9", "country;place 0 9 9  ", "country;hours",
            "country;hours 1", "country;hours 99 ", TWO + "crow", TWO + "crow 0", TWO + "crow 0 1", TWO + "fly",
            TWO + "fly 0", TWO + "fly 0 1", TWO + "rest", TWO + "rest 0"}) {
            fault(text, "");
        }
        CrowMiles x = new CrowMiles();
        due.is("an empty one, of nothing typed", x.read(), -10);
        x.type('c');
        x.clear();
        due.is("an empty one, cleared", x.read(), -10);
    }

    /** Cut off anywhere: behind an item it is read, in a word that is at fault, anywhere else the end is. */
    private static void everyPrefix() {
        due.says("FAULT: the place of the first byte of the first TOKEN that can not stand there");
        String text = "country;place 0 3 4;place 5 9 9 ;crow 2 0; crow 3 1;fly 0 1;rest 0;hours 99;";
        int items = 0;
        int wordAt = 0;
        for (int length = 0; length <= text.length(); length++) {
            char last = length == 0 ? ' ' : text.charAt(length - 1);
            char next = length == text.length() ? ' ' : text.charAt(length);
            if (last == ';') {
                items++;
            }
            if (last < 'a') {
                wordAt = length;
            }
            boolean isCutInAWord = last >= 'a' && next >= 'a';
            boolean isBehindAnItem = text.substring(0, length).trim().endsWith(";");
            int want = isBehindAnItem ? items : -10 - (isCutInAWord ? wordAt : length);
            due.is("read \"" + text.substring(0, length) + "\"", Due.read(new CrowMiles(), text.substring(0, length)), want);
        }
    }

    private static void firstFault() {
        due.says("FAULT: the place of the first byte of the first TOKEN that can not stand there");
        fault("country;hours ", "0 0 000 - x;;");
        fault("country;", "- hours 0;");
        fault("country;place 0 ", "x 99 000;");
        fault("country", ":;country;");
        fault("country;hours 1;", ";;");
    }

    private static void allStays() {
        due.says("-10 less the FAULT: all stays.");
        for (String text : new String[] {"", "x", "country", "country;place 1 1 1;place 2 2 2;crow 5 1;fly 0 0;hours 0;",
            SEVEN + "place 0 0 0;"}) {
            CrowMiles x = Lands.small();
            CrowMiles y = Lands.small();
            Due.type(x, text);
            Due.type(y, text);
            due.holds("\"" + text + "\" is at fault", x.read() <= -10);
            for (int reason = 0; reason < 3; reason++) {
                due.is("status(" + reason + ") behind \"" + text + "\"", x.status(reason), y.status(reason));
            }
            due.same("all behind \"" + text + "\"", Lands.seen(x), Lands.seen(y));
        }
    }

    private static void takesThePlace() {
        due.says("A COUNTRY that is read takes the place of all but IMAGES, THE TEXT, THE FRACTION, STATUS "
                + "(NOTES, MARKS none; nothing to undo).");
        CrowMiles x = Lands.full();
        int[] statuses = {x.status(0), x.status(1), x.status(2)};
        long above = x.part(0);
        long below = x.part(1);
        due.is("read()", x.read(), 6);
        // straight 18 to an elm by a standard one, at hour 0: 162 less 7
        int[] want = {2, 1, 10, 1, 155, 0, 0, 0, 150};
        for (int what = 0; what <= 8; what++) {
            due.is("count(" + what + ")", x.count(what), want[what]);
        }
        due.is("undo()", x.undo(), CrowMiles.NO);
        due.is("is(0)", x.is(0), 63);
        due.is("kinds(0)", x.kinds(0), 63);
        due.is("TIRED", x.of(0, 2), 1);
        due.is("THE FRACTION above", x.part(0), above);
        due.is("THE FRACTION below", x.part(1), below);
        due.is("BADs", x.status(0), statuses[0]);
        due.is("NOs", x.status(1), statuses[1] + 1);
        due.is("FULLs", x.status(2), statuses[2]);
        due.is("read() again", x.read(), 6);
        due.is("the HOUR again", x.count(2), 10);
        due.is("IMAGE 0", x.from(0), 1);
        due.is("its HOUR", x.count(2), 9898);
        due.is("IMAGE 1", x.from(1), 1);
        due.is("its NOTES", x.count(5), 6);
        due.is("its MARKS", x.count(6), 6);
    }

    private static void clear() {
        due.says("THE TEXT is empty: how many it had.");
        CrowMiles x = new CrowMiles();
        due.is("of none", x.clear(), 0);
        x.type(0);
        due.is("of one", x.clear(), 1);
        due.is("bytes behind it", x.count(8), 0);
        for (int i = 0; i < 151; i++) {
            x.type(32);
        }
        due.is("of 150", x.clear(), 150);
        due.is("again", x.clear(), 0);
        due.is("room for one again", x.type(127), 1);
        due.is("FULLs", x.status(2), 1);
        // behind a longer text nothing of that is left
        String longer = "country;place 0 9 9;hours 12;hours  4;";
        for (String text : new String[] {"country;place 0 9 9;hours 1", "country;place 0 9 9;hours", "country;place 0 9 9",
            "country;place 0 9 9;hours 12", "country;place 0 9 9;hours 12;hours "}) {
            CrowMiles y = Due.told(longer);
            due.is("cut off behind \"" + text + "\"", Due.read(y, text), -10 - text.length());
        }
        CrowMiles y = Due.told(longer);
        due.is("cut off in a word", Due.read(y, "country;place 0 9 9;hou"), -30);
    }
}
