/** What there is, at its limits: a new object, country, undoing, images, counts and the digest. */
public final class StateEdgeTest {
    private static final Due due = new Due("StateEdgeTest");
    private static final int BAD = CrowMiles.BAD, NO = CrowMiles.NO;
    private static final String TWO = "country;place 0 0 0;place 1 3 4;crow 2 0;crow 3 1;";

    public static void main(String[] args) {
        newObject();
        country();
        undoEach();
        undoHoursTogether();
        undoEightAtMost();
        undoEightOfAllKinds();
        undoMakesRoom();
        undoBehindAPlaceOrCrow();
        undoDeedsForgotten();
        undoNothingElse();
        images();
        imagesKeepWhatMayBeUndone();
        imagesOfNothing();
        imagesStandApart();
        fraction();
        countsAtFirst();
        countsAtTheMost();
        digest();
        due.end();
    }

    // ---- as at first

    private static void newObject() {
        due.says("As told; nothing is there.");
        CrowMiles x = new CrowMiles();
        for (int what = 0; what <= 8; what++) {
            due.is("count(" + what + ")", x.count(what), 0);
        }
        due.is("above", x.part(0), 0);
        due.is("below", x.part(1), 1);
        for (int what = 0; what < 3; what++) {
            due.is("status(" + what + ")", x.status(what), 0);
        }
        due.is("PLACE 0", x.about(0, 0), BAD);
        due.is("CROW 0", x.of(0, 0), BAD);
        due.is("DEED 0", x.book(0, 0), NO);
        due.is("IMAGE 0", x.from(0), NO);
        due.is("IMAGE 1", x.from(1), NO);
        due.is("undo()", x.undo(), NO);
        due.is("read()", x.read(), -10);
        due.is("clear()", x.clear(), 0);
        due.is("country()", x.country(), 0);
    }

    private static void country() {
        due.says("All as at first (but for IMAGES, THE TEXT, THE FRACTION, STATUS): how many PLACES there were.");
        CrowMiles one = new CrowMiles();
        one.place(0, 0, 0);
        due.is("of one", one.country(), 1);
        due.is("again", one.country(), 0);
        CrowMiles x = Lands.full();
        int[] statuses = {x.status(0), x.status(1), x.status(2)};
        long above = x.part(0);
        long below = x.part(1);
        due.is("of seven", x.country(), 7);
        for (int what = 0; what <= 7; what++) {
            due.is("count(" + what + ")", x.count(what), 0);
        }
        due.is("THE TEXT", x.count(8), 150);
        due.is("THE FRACTION above", x.part(0), above);
        due.is("THE FRACTION below", x.part(1), below);
        for (int reason = 0; reason < 3; reason++) {
            due.is("status(" + reason + ")", x.status(reason), statuses[reason]);
        }
        due.is("the first PLACE anew", x.place(3, 1, 2), 0);
        due.is("the first CROW anew", x.crow(2, 0), 0);
        due.is("not TIRED", x.of(0, 2), 0);
        due.is("no NOTES", x.is(0), 63);
        due.is("no MARKS", x.kinds(0), 63);
        due.is("IMAGE 1", x.from(1), 1);
        due.is("its PLACES", x.count(0), 7);
        due.is("its past", x.count(7), 8);
        due.is("IMAGE 0", x.from(0), 1);
        due.is("its HOUR", x.count(2), 9898);
        due.is("THE TEXT is read still", x.read(), 6);
    }

    // ---- undoing

    private static void undoEach() {
        due.says("UNDO: where CROWS are, TIRED, DEEDS, the HOUR as ahead of the last FLIGHT, REST, HOURS gone by");
        CrowMiles x = Due.told(TWO);
        due.is("none", x.undo(), NO);
        long[] digests = new long[6];
        digests[0] = x.digest();
        x.flies(0, 1);
        digests[1] = x.digest();
        x.flies(1, 0);
        digests[2] = x.digest();
        x.rests(0);
        digests[3] = x.digest();
        x.hours(99);
        digests[4] = x.digest();
        x.forget(2);
        int[] hours = {0, 1, 2, 10, 109};
        for (int i = 4; i >= 0; i--) {
            due.is("undo() to " + i, x.undo(), hours[i]);
            due.is("all as at " + i, x.digest(), digests[i]);
            due.is("may be undone at " + i, x.count(7), i);
        }
        due.is("none any more", x.undo(), NO);
        due.is("all stays", x.digest(), digests[0]);
    }

    private static void undoHoursTogether() {
        due.says("n HOURS go by (1 .. 99; together one that may be undone; 9999 stays): the HOUR. BAD.");
        CrowMiles x = new CrowMiles();
        due.is("hours(1)", x.hours(1), 1);
        due.is("one", x.count(7), 1);
        due.is("hours(99)", x.hours(99), 100);
        due.is("two", x.count(7), 2);
        due.is("hours(0)", x.hours(0), BAD);
        due.is("hours(100)", x.hours(100), BAD);
        due.is("two still", x.count(7), 2);
        due.is("99 undone together", x.undo(), 1);
        due.is("1 undone", x.undo(), 0);
        Lands.waitTill(x, 9900);
        due.is("hours(98)", x.hours(98), 9998);
        due.is("undone", x.undo(), 9900);
        due.is("hours(99)", x.hours(99), 9999);
        due.is("undone", x.undo(), 9900);
        x.hours(1);
        due.is("hours(99) from 9901", x.hours(99), 9999);
        due.is("undone", x.undo(), 9901);
        x.hours(98);
        due.is("hours(1) at 9999", x.hours(1), 9999);
        due.is("that may be undone too", x.undo(), 9999);
        due.is("and the one ahead of it", x.undo(), 9901);
    }

    private static void undoEightAtMost() {
        due.says("8 at most");
        for (int doings : new int[] {0, 1, 7, 8, 9, 20}) {
            CrowMiles x = new CrowMiles();
            for (int i = 0; i < doings; i++) {
                x.hours(1);
            }
            int may = Math.min(doings, 8);
            due.is("may be undone of " + doings, x.count(7), may);
            for (int i = 1; i <= may; i++) {
                due.is("undo " + i + " of " + doings, x.undo(), doings - i);
                due.is("may be undone behind it", x.count(7), may - i);
            }
            due.is("one more of " + doings, x.undo(), NO);
            due.is("the HOUR stays", x.count(2), doings - may);
        }
    }

    private static void undoEightOfAllKinds() {
        due.says("8 at most");
        CrowMiles x = Due.told(TWO);
        // nine: the first flight can not be undone any more
        x.flies(0, 1);
        int hour = x.count(2);
        x.rests(0);
        x.hours(1);
        x.forget(2);
        x.flies(1, 0);
        x.rests(1);
        x.hours(2);
        x.forget(2);
        due.is("8 of 8", x.count(7), 8);
        x.flies(0, 0);
        due.is("8 of 9", x.count(7), 8);
        for (int i = 0; i < 8; i++) {
            due.holds("undo " + i, x.undo() >= 0);
        }
        due.is("a 9th", x.undo(), NO);
        due.is("the HOUR behind the first flight", x.count(2), hour);
        due.is("she is where she flew to", x.of(0, 1), 1);
        due.is("TIRED by it", x.of(0, 2), 1);
        due.is("its DEED", x.book(0, 1), 63);
    }

    private static void undoMakesRoom() {
        due.says("UNDO: the HOUR then. NO: none may be.");
        CrowMiles x = new CrowMiles();
        for (int i = 0; i < 8; i++) {
            x.hours(1);
        }
        for (int i = 7; i >= 5; i--) {
            due.is("back to " + i, x.undo(), i);
        }
        due.is("5 left", x.count(7), 5);
        x.hours(10);
        x.hours(10);
        x.hours(10);
        due.is("8 again", x.count(7), 8);
        int[] back = {25, 15, 5, 4, 3, 2, 1, 0};
        for (int hour : back) {
            due.is("back to " + hour, x.undo(), hour);
        }
        due.is("none", x.undo(), NO);
        due.is("what was undone is no more", x.count(2), 0);
        due.is("NOs", x.status(1), 1);
    }

    private static void undoBehindAPlaceOrCrow() {
        due.says("behind a PLACE, a CROW that comes none may be");
        CrowMiles x = Due.told(TWO);
        x.hours(1);
        x.flies(0, 1);
        due.is("a PLACE that is BAD", x.place(6, 0, 0), BAD);
        due.is("a CROW that is BAD", x.crow(0, 2), BAD);
        due.is("two may be still", x.count(7), 2);
        due.is("a PLACE", x.place(0, 0, 0), 2);
        due.is("none may be", x.count(7), 0);
        due.is("undo()", x.undo(), NO);
        due.is("the HOUR stays", x.count(2), 2);
        x.hours(1);
        due.is("one done behind it may be", x.count(7), 1);
        due.is("a CROW", x.crow(0, 2), 2);
        due.is("none may be", x.count(7), 0);
        due.is("undo()", x.undo(), NO);
        x.hours(1);
        due.is("a CROW beyond the third", x.crow(0, 0), CrowMiles.FULL);
        due.is("one may be still", x.count(7), 1);
        for (int i = 3; i < 7; i++) {
            x.place(0, 0, 0);
        }
        x.hours(1);
        due.is("a PLACE beyond the 7th", x.place(0, 0, 0), CrowMiles.FULL);
        due.is("one may be still", x.count(7), 1);
        due.is("undo()", x.undo(), 4);
    }

    private static void undoDeedsForgotten() {
        due.says("(and DEEDS forgotten; 8 at most;");
        CrowMiles x = Due.told(TWO);
        for (int i = 0; i < 12; i++) {
            x.flies(0, 1 - i % 2);
        }
        int lengths = x.count(4);
        x.flies(0, 1);
        due.is("the first is forgotten by a 13th", x.book(0, 0), 100);
        x.undo();
        due.is("it is there again", x.book(0, 0), 10);
        due.is("lengths", x.count(4), lengths);
        due.is("forget(2)", x.forget(2), 12);
        due.is("forget(2) of none", x.forget(2), 0);
        due.is("DEEDS", x.count(3), 0);
        x.undo();
        due.is("none undone", x.count(3), 0);
        x.undo();
        due.is("12 undone", x.count(3), 12);
        due.is("lengths", x.count(4), lengths);
        due.is("the HOUR stays", x.count(2), 12);
    }

    private static void undoNothingElse() {
        due.says("UNDO: where CROWS are, TIRED, DEEDS, the HOUR as ahead of the last FLIGHT, REST, HOURS gone by");
        CrowMiles x = Due.told(TWO);
        x.hours(1);
        x.note(0, 0, 0, 0);
        x.mark(0, 0, 0, 0, 0);
        x.type(1);
        x.wind(0, 0, 1, 10);
        x.image(0);
        x.forget(0);
        x.forget(1);
        x.note(0, 0, 0, 0);
        x.mark(0, 0, 0, 0, 0);
        x.mark(0, 0, 0, 0, 0);
        due.is("none of these may be", x.count(7), 1);
        due.is("undo()", x.undo(), 0);
        due.is("NOTES", x.count(5), 1);
        due.is("MARKS", x.count(6), 2);
        due.is("bytes", x.count(8), TWO.length() + 1);
        due.is("above", x.part(0), 94);
        due.is("the IMAGE", x.from(0), 1);
        due.is("its HOUR", x.count(2), 1);
    }

    // ---- images

    private static void images() {
        due.says("IMAGES 0, 1 keep all but them, THE TEXT, THE FRACTION and STATUS");
        for (int i = 0; i < 2; i++) {
            CrowMiles x = Lands.full();
            due.is("image(-1)", x.image(-1), BAD);
            due.is("image(2)", x.image(2), BAD);
            due.is("image(" + i + ")", x.image(i), 1);
            long digest = x.digest();
            x.country();
            x.place(1, 1, 1);
            x.place(2, 7, 8);
            x.crow(4, 1);
            x.flies(0, 0);
            x.hours(7);
            for (int n = 0; n < 6; n++) {
                x.note(0, 7 + n, 7, 7);
                x.mark(0, 7 + n, 7, 7, 7);
            }
            due.is("from(-1)", x.from(-1), BAD);
            due.is("from(2)", x.from(2), BAD);
            due.is("from(" + i + ")", x.from(i), 1);
            due.is("all as it was, " + i, x.digest(), digest);
            x.country();
            x.wind(0, 0, 1, 1);
            x.clear();
            x.type('x');
            due.is("from(" + i + ") again", x.from(i), 1);
            due.is("THE TEXT is as now", x.count(8), 1);
            due.is("STATUS is as now", x.status(0), 5);
            x.wind(0, 0, 1, 0);
            long above = x.part(0);
            due.is("from(" + i + ") once more", x.from(i), 1);
            due.is("THE FRACTION is as now", x.part(0), above);
        }
    }

    private static void imagesKeepWhatMayBeUndone() {
        due.says("what may be undone they keep; it goes on from one.");
        for (int doings : new int[] {0, 1, 7, 8, 9}) {
            CrowMiles x = new CrowMiles();
            for (int i = 0; i < doings; i++) {
                x.hours(1);
            }
            x.image(1);
            for (int i = 0; i < 11; i++) {
                x.hours(50);
            }
            x.from(1);
            due.is("may be undone of " + doings, x.count(7), Math.min(doings, 8));
            x.hours(1);
            due.is("it goes on", x.count(2), doings + 1);
            x.undo();
            x.undo();
            due.is("two undone", x.count(2), Math.max(0, doings - 1));
            x.from(1);
            for (int i = 1; i <= Math.min(doings, 8); i++) {
                due.is("undo " + i + " of " + doings, x.undo(), doings - i);
            }
            due.is("one more of " + doings, x.undo(), NO);
        }
    }

    private static void imagesOfNothing() {
        due.says("It goes on from an IMAGE: 1. BAD; NO: none was kept.");
        CrowMiles x = new CrowMiles();
        due.is("from(0)", x.from(0), NO);
        due.is("from(1)", x.from(1), NO);
        x.image(1);
        due.is("from(0), the other is kept", x.from(0), NO);
        x.place(0, 0, 0);
        due.is("from(1), of nothing", x.from(1), 1);
        due.is("nothing is there", x.count(0), 0);
        x.image(0);
        due.is("from(0)", x.from(0), 1);
        due.is("NOs", x.status(1), 3);
    }

    private static void imagesStandApart() {
        due.says("An IMAGE is kept: 1. BAD.");
        CrowMiles x = Due.told(TWO);
        x.image(0);
        x.flies(0, 1);
        x.note(0, 0, 0, 0);
        x.mark(0, 0, 0, 0, 0);
        x.image(1);
        x.place(0, 9, 9);
        x.crow(0, 0);
        x.from(0);
        due.is("0: the HOUR", x.count(2), 0);
        due.is("0: NOTES and MARKS", x.count(5) + x.count(6), 0);
        x.hours(40);
        x.from(1);
        due.is("1: the HOUR", x.count(2), 1);
        due.is("1: NOTES and MARKS", x.count(5) + x.count(6), 2);
        due.is("1: PLACES", x.count(0), 2);
        due.is("1: CROWS", x.count(1), 2);
        due.is("1: she is there", x.of(0, 1), 1);
        due.is("0 becomes 1", x.image(0), 1);
        x.country();
        x.from(0);
        due.is("0: the HOUR then", x.count(2), 1);
    }

    // ---- what there is

    private static void fraction() {
        due.says("THE FRACTION is 0 by 1 at first; lowest terms, below above 0.");
        CrowMiles x = new CrowMiles();
        due.is("part(0)", x.part(0), 0);
        due.is("part(1)", x.part(1), 1);
        due.is("part(-1)", x.part(-1), BAD);
        due.is("part(2)", x.part(2), BAD);
    }

    private static final String COUNTS = "How many: 0 PLACES, 1 CROWS, 2 the HOUR, 3 DEEDS, 4 the lengths of all DEEDS "
        + "together, 5 NOTES, 6 MARKS, 7 that may be undone, 8 bytes of THE TEXT. BAD.";

    private static void countsAtFirst() {
        due.says(COUNTS);
        CrowMiles x = new CrowMiles();
        due.is("count(-1)", x.count(-1), BAD);
        due.is("count(0)", x.count(0), 0);
        due.is("count(8)", x.count(8), 0);
        due.is("count(9)", x.count(9), BAD);
        // one of each, but for two PLACES
        x.place(0, 0, 0);
        x.place(0, 0, 1);
        x.crow(0, 0);
        x.flies(0, 1);
        x.note(0, 0, 0, 0);
        x.mark(0, 0, 0, 0, 0);
        x.type(0);
        int[] want = {2, 1, 1, 1, 10, 1, 1, 1, 1};
        for (int what = 0; what <= 8; what++) {
            due.is("count(" + what + ") of one", x.count(what), want[what]);
        }
    }

    private static void countsAtTheMost() {
        due.says(COUNTS);
        CrowMiles x = Lands.full();
        int together = 0;
        for (int k = 0; k < 12; k++) {
            together += x.book(k, 1);
        }
        int[] want = {7, 3, 9999, 12, together, 6, 6, 8, 150};
        for (int what = 0; what <= 8; what++) {
            due.is("count(" + what + ")", x.count(what), want[what]);
        }
        due.is("TIRED", x.of(0, 2), 99);
        // all of them refused, or as it was
        x.place(0, 0, 0);
        x.crow(0, 0);
        x.hours(99);
        x.flies(0, 2);
        x.note(0, 0, 0, 0);
        x.mark(0, 0, 0, 0, 0);
        x.type(0);
        for (int what = 0; what <= 8; what++) {
            due.is("count(" + what + ") still", x.count(what), want[what]);
        }
    }

    private static void digest() {
        due.says("h = 1753; then h = 31 h + v for each v: count(0) to count(8); of PLACES KIND, X, Y; of CROWS KIND, PLACE, "
                + "TIRED; of DEEDS a, b, the length; of NOTES p, m, t, x; of MARKS c, d, t, n, x; THE FRACTION.");
        CrowMiles x = new CrowMiles();
        due.is("of nothing", x.digest(), mixed(new int[] {0, 0, 0, 0, 0, 0, 0, 0, 0, 0, 1}));
        CrowMiles y = Lands.full();
        int[] values = new int[9 + 7 * 3 + 3 * 3 + 12 * 3 + 6 * 4 + 6 * 5 + 2];
        int n = 0;
        for (int what = 0; what <= 8; what++) {
            values[n++] = y.count(what);
        }
        for (int p = 0; p < 7 * 3; p++) {
            values[n++] = y.about(p / 3, p % 3);
        }
        for (int c = 0; c < 3 * 3; c++) {
            values[n++] = y.of(c / 3, c % 3);
        }
        for (int k = 0; k < 12; k++) {
            values[n++] = y.book(k, 0) / 100;
            values[n++] = y.book(k, 0) / 10 % 10;
            values[n++] = y.book(k, 1);
        }
        for (int i = 0; i < 6; i++) {
            n = put(values, n, i, 10 * i, i, 10 * i);
        }
        for (int i = 0; i < 6; i++) {
            n = put(values, n, i % 3, i, i, i, 10 * i);
        }
        n = put(values, n, (int) y.part(0), (int) y.part(1));
        due.is("values", n, values.length);
        due.is("of all", y.digest(), mixed(values));
    }

    private static int put(int[] values, int at, int... more) {
        System.arraycopy(more, 0, values, at, more.length);
        return at + more.length;
    }

    /** Beyond 64 bits what is left over, as Java's long goes. */
    private static long mixed(int[] values) {
        java.math.BigInteger h = java.math.BigInteger.valueOf(1753);
        for (int v : values) {
            h = h.multiply(java.math.BigInteger.valueOf(31)).add(java.math.BigInteger.valueOf(v));
        }
        return h.longValue();
    }
}
