/** Promises 32 to 37: part, image, from, status, count, digest. */
public final class StateTest {
    private static final Due due = new Due("StateTest");
    private static final int BAD = CrowMiles.BAD, NO = CrowMiles.NO, FULL = CrowMiles.FULL;
    private static final String TWO = "country;place 0 0 0;place 1 3 4;crow 0 0;crow 3 1;";

    public static void main(String[] args) {
        part();
        image();
        imagesKeepWhatMayBeUndone();
        imagesStandApart();
        from();
        status();
        count();
        digest();
        due.end();
    }

    private static void part() {
        CrowMiles x = Due.told(TWO);
        due.is("32: above at first", x.part(0), 0);
        due.is("32: below at first", x.part(1), 1);
        x.wind(0, 0, 1, 5);
        due.is("32: above", x.part(0), 157);
        due.is("32: below", x.part(1), 2);
        due.is("32: what -1", x.part(-1), BAD);
        due.is("32: what 2", x.part(2), BAD);
        due.is("32: BADs", x.status(0), 2);
    }

    private static void image() {
        CrowMiles x = Due.told(TWO);
        due.is("33: -1", x.image(-1), BAD);
        due.is("33: 2", x.image(2), BAD);
        due.is("33: BADs", x.status(0), 2);
        due.is("33: none was kept by these", x.from(0), NO);
        due.is("33: image(0)", x.image(0), 1);
        x.wind(0, 0, 1, 5);
        x.note(0, 1, 2, 3);
        x.mark(1, 1, 2, 3, 4);
        x.flies(0, 1);
        due.is("33: image(1)", x.image(1), 1);
        long kept = x.digest();
        x.country();
        due.is("34: from(1)", x.from(1), 1);
        due.is("34: all as it was kept", x.digest(), kept);
        due.is("34: THE FRACTION stays", x.part(0), 157);
        due.is("34: from(0)", x.from(0), 1);
        due.is("34: no NOTES yet", x.count(5), 0);
        due.is("34: no MARKS yet", x.count(6), 0);
        due.is("34: no DEEDS yet", x.count(3), 0);
        due.is("34: she is where she was", x.of(0, 1), 0);
        due.is("34: PLACES", x.count(0), 2);
        due.is("34: an X", x.about(1, 1), 3);
        due.is("33: image(1) anew", x.image(1), 1);
        due.is("34: from(1) anew", x.from(1), 1);
        due.is("34: the later one is kept", x.count(3), 0);
        due.is("33: an IMAGE is none that may be undone", x.count(7), 0);
    }

    private static void imagesKeepWhatMayBeUndone() {
        CrowMiles x = Due.told(TWO);
        x.hours(1);
        x.hours(2);
        x.image(0);
        x.undo();
        x.hours(50);
        x.hours(50);
        x.from(0);
        due.is("34: may be undone", x.count(7), 2);
        due.is("34: undo()", x.undo(), 1);
        due.is("34: undo()", x.undo(), 0);
        due.is("34: undo()", x.undo(), NO);
        x.hours(3);
        x.hours(4);
        x.image(0);
        x.country();
        for (int i = 0; i < 9; i++) {
            x.hours(77);
        }
        x.from(0);
        due.is("34: undo() where others were done", x.undo(), 3);
        due.is("34: undo() where others were done", x.undo(), 0);
        due.is("34: undo() where others were done", x.undo(), NO);
        for (int i = 1; i <= 10; i++) {
            x.hours(1);
        }
        x.image(1);
        x.place(0, 0, 0);
        due.is("34: none may be behind a PLACE", x.count(7), 0);
        x.from(1);
        for (int i = 9; i >= 2; i--) {
            due.is("34: undo() to " + i, x.undo(), i);
        }
        due.is("34: undo()", x.undo(), NO);
    }

    private static void imagesStandApart() {
        CrowMiles x = Due.told(TWO);
        x.flies(0, 1);
        x.image(0);
        long kept = x.digest();
        x.flies(0, 0);
        x.flies(1, 0);
        x.place(2, 2, 2);
        x.note(2, 2, 2, 2);
        x.clear();
        x.type(33);
        x.wind(0, 0, 1, 10);
        due.is("34: from(0)", x.from(0), 1);
        due.is("34: THE TEXT stays as it is", x.count(8), 1);
        due.is("34: THE FRACTION stays as it is", x.part(0), 94);
        due.is("34: DEEDS", x.count(3), 1);
        due.is("34: PLACES", x.count(0), 2);
        due.is("34: NOTES", x.count(5), 0);
        x.flies(0, 0);
        due.is("34: what goes on does not touch the IMAGE", x.from(0), 1);
        due.is("34: DEEDS again", x.count(3), 1);
        due.holds("34: but for THE TEXT and THE FRACTION", x.digest() != kept);
        x.note(1, 70, 0, 63);
        x.mark(0, 7, 0, 3, 79);
        x.image(0);
        x.forget(0);
        x.forget(1);
        x.note(0, 70, 0, 74);
        x.mark(1, 7, 12, 3, 75);
        x.from(0);
        due.is("34: NOTES as they were", x.is(1), 2);
        due.is("34: no others", x.is(0), 63);
        due.is("34: MARKS as they were", x.kinds(0), 4);
        due.is("34: no others", x.kinds(1), 63);
        x.image(1);
        x.undo();
        x.flies(0, 1);
        x.flies(0, 0);
        x.from(1);
        due.is("34: undo() behind from(1)", x.undo(), 0);
        due.is("34: she is back", x.of(0, 1), 0);
    }

    private static void from() {
        CrowMiles x = new CrowMiles();
        due.is("34: -1", x.from(-1), BAD);
        due.is("34: 2", x.from(2), BAD);
        due.is("34: none was kept", x.from(0), NO);
        due.is("34: none was kept", x.from(1), NO);
        x.image(1);
        due.is("34: the other", x.from(0), NO);
        due.is("34: an empty one", x.from(1), 1);
        due.is("34: BADs", x.status(0), 2);
        due.is("34: NOs", x.status(1), 3);
    }

    private static void status() {
        CrowMiles x = new CrowMiles();
        due.is("35: BAD", x.status(0), 0);
        due.is("35: NO", x.status(1), 0);
        due.is("35: FULL", x.status(2), 0);
        due.is("35: 3", x.status(3), -1);
        due.is("35: -1", x.status(-1), -1);
        due.is("35: these count as BAD", x.status(0), 2);
        x.undo();
        x.book(0, 0);
        x.from(0);
        due.is("35: NO", x.status(1), 3);
        for (int i = 0; i < 9; i++) {
            x.place(0, 0, 0);
        }
        due.is("35: FULL", x.status(2), 2);
        x.crow(0, 0);
        x.way(0, 0, 1, 9);
        x.round(0, 9);
        x.clash(0, 99);
        x.owner(0, 99);
        x.standard(0, 1);
        x.read();
        due.is("35: -5, NONE and FAULTS are not counted", x.status(0), 2);
        x.way(0, 0, 1, -2);
        x.round(0, -2);
        x.clash(0, -2);
        x.owner(0, -2);
        due.is("35: -10 counts as BAD", x.status(0), 6);
        x.image(0);
        x.undo();
        x.country();
        x.from(0);
        due.is("35: BAD stays", x.status(0), 6);
        due.is("35: NO stays", x.status(1), 4);
        due.is("35: FULL stays", x.status(2), 2);
    }

    private static void count() {
        CrowMiles x = Due.told(TWO);
        x.place(5, 9, 9);
        x.hours(10);
        x.flies(0, 1);
        x.flies(1, 2);
        x.note(0, 1, 2, 3);
        x.note(0, 1, 2, 3);
        x.mark(0, 1, 2, 3, 4);
        x.clear();
        x.type(1);
        x.type(2);
        x.type(3);
        x.type(4);
        // 63 to the elm, 110 to the guildhall
        int[] want = {3, 2, 12, 2, 173, 2, 1, 3, 4};
        for (int what = 0; what <= 8; what++) {
            due.is("36: count(" + what + ")", x.count(what), want[what]);
        }
        due.is("36: -1", x.count(-1), BAD);
        due.is("36: 9", x.count(9), BAD);
        due.is("36: BADs", x.status(0), 2);
    }

    private static long mixed(long... values) {
        long h = 1753;
        for (long v : values) {
            h = 31 * h + v;
        }
        return h;
    }

    private static void digest() {
        CrowMiles x = new CrowMiles();
        due.is("37: of a new one", x.digest(), mixed(0, 0, 0, 0, 0, 0, 0, 0, 0, 0, 1));
        x.place(1, 3, 4);
        x.place(5, 9, 8);
        x.crow(3, 0);
        x.crow(0, 1);
        x.flies(0, 1);
        x.flies(1, 0);
        x.note(1, 7, 8, 9);
        x.note(0, 6, 5, 4);
        x.mark(1, 2, 3, 4, 5);
        x.mark(0, 9, 8, 7, 6);
        x.type(65);
        x.wind(1, 1, 0, 5);
        // 0 to 1: 100; 1 to 0: 93; with wind 139: (465 + 695) by 10
        due.is("37: of all", x.digest(), mixed(2, 2, 2, 2, 193, 2, 2, 2, 1,
                1, 3, 4, 5, 9, 8,
                3, 1, 1, 0, 0, 1,
                0, 1, 100, 1, 0, 93,
                1, 7, 8, 9, 0, 6, 5, 4,
                1, 2, 3, 4, 5, 0, 9, 8, 7, 6,
                116, 1));
        x.status(9);
        due.is("37: STATUS is not in it", x.digest(), mixed(2, 2, 2, 2, 193, 2, 2, 2, 1,
                1, 3, 4, 5, 9, 8, 3, 1, 1, 0, 0, 1, 0, 1, 100, 1, 0, 93,
                1, 7, 8, 9, 0, 6, 5, 4, 1, 2, 3, 4, 5, 0, 9, 8, 7, 6, 116, 1));
        due.is("37: FULL is -4", FULL, -4);
    }
}
