/** Promises 8 to 13: flies, rests, hours, undo, of, about. */
public final class FlightTest {
    private static final Due due = new Due("FlightTest");
    private static final int BAD = CrowMiles.BAD, NO = CrowMiles.NO;

    public static void main(String[] args) {
        flies();
        mostTiredAndDeeds();
        lastHour();
        rests();
        hours();
        undo();
        undoAtMostEight();
        of();
        about();
        due.end();
    }

    private static CrowMiles twoFields() {
        return Due.told("country;place 0 0 0;place 0 3 4;crow 2 0;crow 0 1;");
    }

    private static void flies() {
        CrowMiles x = twoFields();
        due.is("8: no such CROW", x.flies(2, 0), BAD);
        due.is("8: CROW -1", x.flies(-1, 0), BAD);
        due.is("8: no such PLACE", x.flies(0, 2), BAD);
        due.is("8: PLACE -1", x.flies(0, -1), BAD);
        due.is("8: she is there", x.flies(0, 0), NO);
        due.is("8: nothing was done", x.count(7), 0);
        due.is("8: flies(0, 1)", x.flies(0, 1), 70);
        due.is("8: she is there now", x.of(0, 1), 1);
        due.is("8: TIRED by 1", x.of(0, 2), 1);
        due.is("8: the other is not", x.of(1, 2), 0);
        due.is("8: the HOUR", x.count(2), 1);
        due.is("8: a DEED", x.count(3), 1);
        due.is("8: from 0 to 1", x.book(0, 0), 10);
        due.is("8: its length", x.book(0, 1), 70);
        due.is("8: may be undone", x.count(7), 1);
        due.is("8: back, as TIRED as ahead of it", x.flies(0, 0), 73);
        due.is("8: she is there", x.flies(0, 0), NO);
        due.is("8: NOs", x.status(1), 2);
        due.is("8: BADs", x.status(0), 4);
        due.is("8: DEEDS", x.count(3), 2);
    }

    private static void mostTiredAndDeeds() {
        CrowMiles x = twoFields();
        for (int i = 0; i < 101; i++) {
            due.is("8: flight " + i, x.flies(0, 1 - i % 2), 70 + 3 * Math.min(i, 9));
            due.is("8: TIRED behind " + i, x.of(0, 2), Math.min(i + 1, 99));
            due.is("8: DEEDS behind " + i, x.count(3), Math.min(i + 1, 12));
        }
        due.is("8: the first DEED", x.book(0, 0), 100);
        due.is("8: the last DEED", x.book(11, 0), 10);
        due.is("8: no 13th", x.book(12, 0), NO);
        CrowMiles y = twoFields();
        for (int i = 0; i < 15; i++) {
            y.flies(0, 1 - i % 2);
        }
        for (int k = 0; k < 12; k++) {
            due.is("8: DEED " + k + " of the last 12", y.book(k, 0), k % 2 == 0 ? 100 : 10);
            due.is("8: the length of DEED " + k, y.book(k, 1), 70 + 3 * Math.min(k + 3, 9));
        }
    }

    private static CrowMiles nearTheEnd(int hour) {
        CrowMiles x = twoFields();
        for (int h = 0; h < hour; h += 99) {
            x.hours(Math.min(99, hour - h));
        }
        return x;
    }

    private static void lastHour() {
        CrowMiles x = nearTheEnd(9998);
        due.is("8: HOUR 9998", x.count(2), 9998);
        due.is("8: flies at 9998", x.flies(0, 1), 70);
        due.is("8: HOUR 9999", x.count(2), 9999);
        due.is("8: flies at 9999", x.flies(0, 0), NO);
        due.is("8: BAD comes ahead of NO", x.flies(0, 2), BAD);
        due.is("8: NO leaves her", x.of(0, 1), 1);
        due.is("9: rests at 9999", x.rests(0), 1);
        due.is("9: HOUR 9999 stays", x.count(2), 9999);
        due.is("9: undo()", x.undo(), 9999);
        due.is("9: TIRED again", x.of(0, 2), 1);
        due.is("10: hours at 9999", x.hours(5), 9999);
        due.is("10: that may be undone too", x.undo(), 9999);
        due.is("10: undo() of the flight", x.undo(), 9998);
        due.is("9: rests at 9998", x.rests(0), 0);
        due.is("9: HOUR 9999", x.count(2), 9999);
        due.is("9: undo()", x.undo(), 9998);
        due.is("10: hours(99) at 9998", x.hours(99), 9999);
        CrowMiles y = nearTheEnd(9991);
        y.rests(1);
        due.is("9: 8 more than 9991", y.count(2), 9999);
        y = nearTheEnd(9990);
        y.rests(1);
        due.is("9: 8 more than 9990", y.count(2), 9998);
    }

    private static void rests() {
        CrowMiles x = twoFields();
        due.is("9: no such CROW", x.rests(2), BAD);
        due.is("9: CROW -1", x.rests(-1), BAD);
        due.is("9: BADs", x.status(0), 2);
        x.flies(0, 1);
        x.flies(0, 0);
        x.flies(1, 0);
        due.is("9: rests(0)", x.rests(0), 2);
        due.is("9: TIRED is 0", x.of(0, 2), 0);
        due.is("9: the other stays TIRED", x.of(1, 2), 1);
        due.is("9: the HOUR", x.count(2), 11);
        due.is("9: no DEED", x.count(3), 3);
        due.is("9: again", x.rests(0), 0);
        due.is("9: the HOUR again", x.count(2), 19);
        due.is("9: may be undone", x.count(7), 5);
    }

    private static void hours() {
        CrowMiles x = new CrowMiles();
        due.is("10: 0", x.hours(0), BAD);
        due.is("10: 100", x.hours(100), BAD);
        due.is("10: -1", x.hours(-1), BAD);
        due.is("10: nothing to undo", x.count(7), 0);
        due.is("10: 1", x.hours(1), 1);
        due.is("10: 99", x.hours(99), 100);
        due.is("10: each is one that may be undone", x.count(7), 2);
        due.is("10: undo()", x.undo(), 1);
        due.is("10: BADs", x.status(0), 3);
    }

    private static void undo() {
        CrowMiles x = twoFields();
        due.is("11: none may be", x.undo(), NO);
        due.is("11: NOs", x.status(1), 1);
        long first = x.digest();
        x.flies(0, 1);
        long second = x.digest();
        x.flies(1, 0);
        x.note(0, 1, 2, 3);
        x.mark(0, 1, 2, 3, 4);
        x.rests(0);
        x.hours(20);
        due.is("11: hours", x.undo(), 10);
        due.is("11: rest", x.undo(), 2);
        due.is("11: TIRED again", x.of(0, 2), 1);
        due.is("11: flight", x.undo(), 1);
        due.is("11: she is back", x.of(1, 1), 1);
        due.is("11: not TIRED", x.of(1, 2), 0);
        due.is("11: one DEED", x.count(3), 1);
        due.is("11: NOTES stay", x.forget(0), 1);
        due.is("11: MARKS stay", x.forget(1), 1);
        due.is("11: all as it was behind the first", x.digest(), second);
        due.is("11: flight", x.undo(), 0);
        due.is("11: all as at first", x.digest(), first);
        due.is("11: none any more", x.undo(), NO);

        for (int i = 0; i < 12; i++) {
            x.flies(0, 1 - i % 2);
        }
        int together = x.count(4);
        x.flies(0, 1);
        due.is("11: the first DEED is forgotten", x.book(0, 0), 100);
        x.undo();
        due.is("11: and is there again", x.book(0, 0), 10);
        due.is("11: lengths together", x.count(4), together);
        due.is("11: forget(2)", x.forget(2), 12);
        due.is("11: none", x.count(3), 0);
        x.flies(0, 1);
        x.undo();
        due.is("11: the HOUR behind forget(2) undone", x.undo(), 12);
        due.is("11: DEEDS again", x.count(3), 12);
        due.is("11: lengths again", x.count(4), together);
    }

    private static void undoAtMostEight() {
        CrowMiles x = new CrowMiles();
        for (int i = 1; i <= 11; i++) {
            x.hours(i);
            due.is("11: may be undone", x.count(7), Math.min(i, 8));
        }
        for (int i = 10; i >= 3; i--) {
            due.is("11: back to " + i, x.undo(), i * (i + 1) / 2);
        }
        due.is("11: a 9th", x.undo(), NO);
        due.is("11: the HOUR stays", x.count(2), 6);
        x.hours(1);
        due.is("11: one more", x.undo(), 6);
    }

    private static void of() {
        CrowMiles x = twoFields();
        x.flies(0, 1);
        due.is("12: KIND", x.of(0, 0), 2);
        due.is("12: PLACE", x.of(0, 1), 1);
        due.is("12: TIRED", x.of(0, 2), 1);
        due.is("12: KIND of 1", x.of(1, 0), 0);
        due.is("12: what -1", x.of(0, -1), BAD);
        due.is("12: what 3", x.of(0, 3), BAD);
        due.is("12: CROW -1", x.of(-1, 0), BAD);
        due.is("12: CROW 2", x.of(2, 0), BAD);
        due.is("12: BADs", x.status(0), 4);
    }

    private static void about() {
        CrowMiles x = twoFields();
        x.place(5, 8, 2);
        due.is("13: KIND", x.about(2, 0), 5);
        due.is("13: X", x.about(2, 1), 8);
        due.is("13: Y", x.about(2, 2), 2);
        due.is("13: what -1", x.about(0, -1), BAD);
        due.is("13: what 3", x.about(0, 3), BAD);
        due.is("13: PLACE -1", x.about(-1, 0), BAD);
        due.is("13: PLACE 3", x.about(3, 0), BAD);
        due.is("13: BADs", x.status(0), 4);
    }
}
