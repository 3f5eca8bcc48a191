/** Promises 22 to 31: note, mark, forget, is, look, kinds, ask, owner, wind, years. */
public final class KindTest {
    private static final Due due = new Due("KindTest");
    private static final int NONE = CrowMiles.NONE, BAD = CrowMiles.BAD, FULL = CrowMiles.FULL;
    private static final int NOT_SO_MANY = -5, BAD_OF_LIST = -10;
    private static final String TWO = "country;place 0 0 0;place 1 3 4;crow 0 0;crow 3 1;";

    public static void main(String[] args) {
        note();
        mark();
        forget();
        is();
        look();
        kinds();
        ask();
        owner();
        wind();
        years();
        yearsBeyondTheLastHour();
        due.end();
    }

    private static void note() {
        CrowMiles x = Due.told(TWO);
        int[][] bad = {{-1, 0, 0, 0}, {2, 0, 0, 0}, {0, -1, 0, 0}, {0, 501, 0, 0}, {0, 0, -1, 0}, {0, 0, 24, 0},
            {0, 0, 0, -1}, {0, 0, 0, 901}};
        for (int[] b : bad) {
            due.is("22: a wrong number", x.note(b[0], b[1], b[2], b[3]), BAD);
        }
        due.is("22: none came", x.count(5), 0);
        due.is("22: the least", x.note(0, 0, 0, 0), 1);
        due.is("22: the most", x.note(1, 500, 23, 900), 2);
        for (int i = 3; i <= 6; i++) {
            due.is("22: NOTE " + i, x.note(0, 1, 1, 1), i);
        }
        due.is("22: a 7th", x.note(0, 1, 1, 1), FULL);
        due.is("22: BAD comes ahead of FULL", x.note(0, 501, 1, 1), BAD);
        due.is("22: still 6", x.count(5), 6);
        due.is("22: no MARK", x.count(6), 0);
        due.is("22: nothing to undo", x.count(7), 0);
        due.is("22: BADs", x.status(0), bad.length + 1);
        due.is("22: FULLs", x.status(2), 1);
    }

    private static void mark() {
        CrowMiles x = Due.told(TWO);
        int[][] bad = {{-1, 0, 0, 0, 0}, {2, 0, 0, 0, 0}, {0, -1, 0, 0, 0}, {0, 19, 0, 0, 0}, {0, 0, -1, 0, 0},
            {0, 0, 24, 0, 0}, {0, 0, 0, -1, 0}, {0, 0, 0, 100, 0}, {0, 0, 0, 0, -1}, {0, 0, 0, 0, 501}};
        for (int[] b : bad) {
            due.is("23: a wrong number", x.mark(b[0], b[1], b[2], b[3], b[4]), BAD);
        }
        due.is("23: none came", x.count(6), 0);
        due.is("23: the least", x.mark(0, 0, 0, 0, 0), 1);
        due.is("23: the most", x.mark(1, 18, 23, 99, 500), 2);
        for (int i = 3; i <= 6; i++) {
            due.is("23: MARK " + i, x.mark(0, 1, 1, 1, 1), i);
        }
        due.is("23: a 7th", x.mark(0, 1, 1, 1, 1), FULL);
        due.is("23: BAD comes ahead of FULL", x.mark(0, 19, 1, 1, 1), BAD);
        due.is("23: still 6", x.count(6), 6);
        due.is("23: no NOTE", x.count(5), 0);
        due.is("23: nothing to undo", x.count(7), 0);
        due.is("23: BADs", x.status(0), bad.length + 1);
        due.is("23: FULLs", x.status(2), 1);
    }

    private static void forget() {
        CrowMiles x = Due.told(TWO);
        x.note(0, 1, 1, 1);
        x.note(0, 1, 1, 1);
        x.mark(0, 1, 1, 1, 1);
        x.mark(0, 1, 1, 1, 1);
        x.mark(0, 1, 1, 1, 1);
        x.flies(0, 1);
        due.is("24: what 3", x.forget(3), BAD);
        due.is("24: what -1", x.forget(-1), BAD);
        due.is("24: BADs", x.status(0), 2);
        due.is("24: NOTES", x.forget(0), 2);
        due.is("24: none any more", x.count(5), 0);
        due.is("24: MARKS stay", x.count(6), 3);
        due.is("24: NOTES again", x.forget(0), 0);
        due.is("24: MARKS", x.forget(1), 3);
        due.is("24: none any more", x.count(6), 0);
        due.is("24: nothing more to undo", x.count(7), 1);
        due.is("24: DEEDS stay", x.count(3), 1);
        due.is("24: DEEDS", x.forget(2), 1);
        due.is("24: none any more", x.count(3), 0);
        due.is("24: no lengths", x.count(4), 0);
        due.is("24: that may be undone", x.count(7), 2);
        due.is("24: none are forgotten, too", x.forget(2), 0);
        due.is("24: which may be undone as well", x.count(7), 3);
        due.is("24: she is where she is", x.of(0, 1), 1);
        x.undo();
        due.is("24: undo()", x.undo(), 1);
        due.is("24: the DEED is there again", x.book(0, 1), 63);
    }

    private static void is() {
        CrowMiles x = Due.told(TWO);
        due.is("25: PLACE 2", x.is(2), BAD);
        due.is("25: PLACE -1", x.is(-1), BAD);
        due.is("25: BADs", x.status(0), 2);
        due.is("25: without NOTES all", x.is(1), 63);
        // of 70 at hour 0: field 70, elm 63, sheep 74, reservoir 92, friend 32, guildhall 70
        int[][] rows = {{70, 33}, {63, 2}, {74, 4}, {92, 8}, {32, 16}, {71, 0}, {31, 0}};
        for (int[] r : rows) {
            x.note(0, 70, 0, r[0]);
            due.is("25: of 70 it was " + r[0], x.is(0), r[1]);
            due.is("25: the other's stay", x.is(1), 63);
            x.forget(0);
        }
        x.note(1, 70, 0, 70);
        x.note(0, 70, 0, 63);
        x.note(1, 75, 0, 75);
        due.is("25: all of one", x.is(1), 1);
        due.is("25: all of the other", x.is(0), 2);
        x.note(1, 75, 0, 76);
        due.is("25: none", x.is(1), 0);
        x.forget(0);
        x.note(0, 70, 1, 63);
        due.is("25: at an odd hour friends are as elms", x.is(0), 18);
        x.forget(0);
        x.note(0, 7, 0, 1);
        due.is("25: an elm is 1 at least", x.is(0), 18);
        x.forget(0);
        x.note(0, 500, 23, 632);
        due.is("25: the farthest", x.is(0), 8);
    }

    private static void look() {
        CrowMiles x = Due.told(TWO);
        due.is("26: PLACE 2", x.look(2), BAD);
        due.is("26: PLACE -1", x.look(-1), BAD);
        due.is("26: BADs", x.status(0), 2);
        due.is("26: of all", x.look(0), 9);
        x.note(0, 70, 0, 70);
        due.is("26: field or guildhall", x.look(0), 0);
        due.is("26: the other's stays", x.look(1), 9);
        x.forget(0);
        x.note(0, 8, 0, 1);
        due.is("26: elm or friend", x.is(0), 18);
        due.is("26: elm or friend: the first that parts them", x.look(0), 9);
        x.note(0, 9, 0, 2);
        due.is("26: elm alone", x.look(0), 0);
        x.note(0, 9, 0, 3);
        due.is("26: no KIND", x.look(0), NONE);
        due.is("26: that is none of BAD", x.status(0), 2);
        x.forget(0);
        // field and guildhall are left by 10, sheep by none: 10, 3, 14, 17, 2, 10
        x.note(0, 10, 0, 10);
        due.is("26: 10 of 10", x.is(0), 33);
        due.is("26: at 0 it is 0 and 10", x.look(0), 0);
    }

    private static void kinds() {
        CrowMiles x = Due.told(TWO);
        due.is("27: CROW 2", x.kinds(2), BAD);
        due.is("27: CROW -1", x.kinds(-1), BAD);
        due.is("27: BADs", x.status(0), 2);
        due.is("27: without MARKS all", x.kinds(1), 63);
        int[][] rows = {
            {7, 11, 2, 70, 3}, {7, 12, 2, 70, 1}, {7, 12, 2, 75, 2}, {7, 0, 2, 76, 12}, {7, 0, 3, 79, 4},
            {7, 0, 3, 158, 8}, {7, 0, 0, 63, 48}, {0, 0, 0, 1, 32}, {0, 0, 0, 0, 31}, {0, 12, 1, 0, 17},
            {7, 0, 99, 97, 4}, {7, 0, 99, 194, 8}, {18, 0, 0, 180, 15}, {18, 0, 0, 181, 0}};
        for (int[] r : rows) {
            x.mark(0, r[0], r[1], r[2], r[3]);
            due.is("27: straight " + r[0] + ", hour " + r[1] + ", TIRED " + r[2] + ", made " + r[3], x.kinds(0), r[4]);
            due.is("27: the other's stay", x.kinds(1), 63);
            x.forget(1);
        }
        x.mark(1, 7, 11, 2, 70);
        x.mark(0, 7, 0, 0, 63);
        x.mark(1, 7, 12, 2, 75);
        due.is("27: all of one", x.kinds(1), 2);
        due.is("27: all of the other", x.kinds(0), 48);
    }

    private static void ask() {
        CrowMiles x = Due.told(TWO);
        due.is("28: CROW 2", x.ask(2), BAD);
        due.is("28: CROW -1", x.ask(-1), BAD);
        due.is("28: BADs", x.status(0), 2);
        due.is("28: of all, not TIRED: plain, tired, walker alike", x.ask(0), 1201);
        x.mark(0, 1, 0, 0, 10);
        due.is("28: all but certified and standard", x.kinds(0), 15);
        due.is("28: not TIRED three are alike from hour 12", x.ask(0), 1200);
        x.flies(0, 1);
        due.is("28: TIRED by 1 two are alike at once", x.ask(0), 0);
        x.flies(0, 0);
        x.flies(0, 1);
        due.is("28: TIRED by 3 none are from hour 12", x.ask(0), 1200);
        x.rests(0);
        x.forget(1);
        x.mark(0, 7, 11, 0, 70);
        x.mark(0, 7, 11, 1, 70);
        due.is("28: plain or hungry", x.kinds(0), 3);
        due.is("28: hungry from hour 12", x.ask(0), 1200);
        x.forget(1);
        x.mark(0, 0, 12, 1, 0);
        due.is("28: plain or certified", x.kinds(0), 17);
        due.is("28: unlike from 1 on", x.ask(0), 1);
        x.mark(0, 0, 12, 1, 1);
        due.is("28: no KIND", x.ask(0), NONE);
        due.is("28: that is none of BAD", x.status(0), 2);
        x.forget(1);
        x.mark(0, 7, 0, 2, 76);
        due.is("28: tired or walker, alike if not TIRED", x.ask(0), 0);
        x.forget(1);
        x.mark(0, 7, 0, 2, 63);
        due.is("28: certified or standard", x.ask(0), 0);
    }

    private static void owner() {
        pairs("29: one PLACE", "country;place 0 0 0;crow 0 0;", new int[] {});
        pairs("29: one other", "country;place 0 0 0;place 0 9 9;crow 0 0;", new int[] {11});
        pairs("29: one other, from 1", "country;place 0 0 0;place 0 9 9;crow 0 1;", new int[] {0});
        // by ten 1 and 18: he goes far, the owner stands near
        pairs("29: near and far", "country;place 0 0 0;place 0 1 0;place 0 9 9;crow 0 0;", new int[] {21});
        // 1 and 1: the owner follows, the surveyor leaves
        pairs("29: alike", "country;place 0 0 0;place 0 1 0;place 0 0 1;crow 0 0;", new int[] {});
        // 1, 6, 6: standing at 6 gets the owner 5 - 6, no more than -1
        pairs("29: no more elsewhere", "country;place 0 0 0;place 0 1 0;place 0 6 0;place 0 0 6;crow 0 0;",
                new int[] {21, 31});
        // 2, 6: the owner would get more at 6
        pairs("29: more elsewhere", "country;place 0 0 0;place 0 2 0;place 0 6 0;crow 0 0;", new int[] {});
        // 1, 7: at 7 the surveyor would get 1 less 0 as well, but the owner leaves
        pairs("29: as much elsewhere", "country;place 0 0 0;place 0 1 0;place 0 7 0;crow 0 0;", new int[] {21});
        // from 2: to 0 it is 9, to 1 it is 99 by ten cut: 9
        pairs("29: cut", "country;place 0 0 0;place 3 9 7;place 0 9 0;crow 0 2;", new int[] {});
        // 14 and 64 by ten cut: 1 and 6, 24 and 64: 2 and 6
        pairs("29: cut for the owner", "country;place 0 0 0;place 2 1 0;place 2 6 0;crow 0 0;", new int[] {21});
        pairs("29: cut for the owner, nearer", "country;place 0 0 0;place 2 2 0;place 2 6 0;crow 0 0;", new int[] {});
        // 80 and 84 by ten cut, 85 and 89 by ten cut: 8 and 8
        String eights = "country;place 0 0 0;place 0 1 0;place 0 8 0;place 2 0 8;";
        pairs("29: cut for the surveyor", eights + "crow 0 0;", new int[] {21, 31});
        pairs("29: cut for the surveyor, hungry", eights + "crow 1 0;hours 12;", new int[] {21, 31});
        // two near ones for the owner, one far one: 1, 1, 9
        pairs("29: two rest", "country;place 0 0 0;place 0 0 1;place 0 1 0;place 0 9 0;crow 0 0;", new int[] {31, 32});

        CrowMiles x = Due.told(TWO);
        due.is("29: k -2", x.owner(0, -2), BAD_OF_LIST);
        due.is("29: CROW 2", x.owner(2, NONE), BAD_OF_LIST);
        due.is("29: CROW -1", x.owner(-1, NONE), BAD_OF_LIST);
        due.is("29: BADs", x.status(0), 3);
    }

    private static void pairs(String what, String text, int[] want) {
        CrowMiles x = Due.told(text);
        due.is(what + ": how many", x.owner(0, NONE), want.length);
        for (int k = 0; k < want.length; k++) {
            due.is(what + ": " + k, x.owner(0, k), want[k]);
        }
        due.is(what + ": end", x.owner(0, want.length), NOT_SO_MANY);
        due.is(what + ": that is none of BAD", x.status(0), 0);
    }

    private static void wind() {
        CrowMiles x = Due.told(TWO);
        // 63 far, with wind 94
        int[][] rows = {{0, 63, 1}, {10, 94, 1}, {5, 157, 2}, {2, 346, 5}, {1, 661, 10}, {9, 909, 10}};
        for (int[] r : rows) {
            due.is("30: by " + r[0], x.wind(0, 0, 1, r[0]), 1);
            due.is("30: above by " + r[0], x.part(0), r[1]);
            due.is("30: below by " + r[0], x.part(1), r[2]);
        }
        due.is("30: odds -1", x.wind(0, 0, 1, -1), BAD);
        due.is("30: odds 11", x.wind(0, 0, 1, 11), BAD);
        due.is("30: CROW 2", x.wind(2, 0, 1, 0), BAD);
        due.is("30: CROW -1", x.wind(-1, 0, 1, 0), BAD);
        due.is("30: from 2", x.wind(0, 2, 1, 0), BAD);
        due.is("30: from -1", x.wind(0, -1, 1, 0), BAD);
        due.is("30: to 2", x.wind(0, 0, 2, 0), BAD);
        due.is("30: to -1", x.wind(0, 0, -1, 0), BAD);
        due.is("30: BADs", x.status(0), 8);
        due.is("30: refused, above stays", x.part(0), 909);
        due.is("30: refused, below stays", x.part(1), 10);
        due.is("30: a is b", x.wind(0, 1, 1, 7), 1);
        due.is("30: a is b, above", x.part(0), 0);
        due.is("30: a is b, below", x.part(1), 1);
    }

    private static void years() {
        CrowMiles x = Due.told("country;place 0 0 0;place 0 3 4;place 0 9 9;crow 0 0;crow 2 0;crow 1 0;");
        long before = x.digest();
        // by seed 1 these go: 2 to 2, 1 to 2, 0 to 2, 1 to 2 (she rests), 1 to 1, 2 to 1 (hungry at hour 12)
        int[] sums = {0, 180, 360, 540, 540, 650, 765};
        for (int n = 0; n < sums.length; n++) {
            due.is("31: years(1, " + n + ")", x.years(1, n), sums[n]);
        }
        due.is("31: nothing is changed", x.digest(), before);
        due.is("31: no DEEDS", x.count(3), 0);
        due.is("31: the most of both in no country", new CrowMiles().years(999999, 60), 0);
        due.is("31: the least seed in no country", new CrowMiles().years(0, 60), 0);
        due.is("31: seed -1", x.years(-1, 0), BAD);
        due.is("31: seed 1000000", x.years(1000000, 0), BAD);
        due.is("31: n -1", x.years(0, -1), BAD);
        due.is("31: n 61", x.years(0, 61), BAD);
        due.is("31: BADs", x.status(0), 4);

        // without CROW 2 the first hour goes by alone: 1 is let go at hour 12, hungry
        CrowMiles y = Due.told("country;place 0 0 0;place 0 3 4;place 0 9 9;crow 0 0;crow 1 0;hours 1;");
        due.is("31: one not there", y.years(1, 5), 180 + 180 + 115);
        // PLACE 2 is not there: all rest, till 1 flies to 1 at hour 32 and 2 at hour 33
        CrowMiles z = Due.told("country;place 0 0 0;place 0 3 4;crow 0 0;crow 1 0;crow 1 0;");
        due.is("31: all rest", z.years(1, 4), 0);
        due.is("31: at hour 8 of a day", z.years(1, 6), 140);
        z.hours(4);
        due.is("31: at hour 12 of a day", z.years(1, 6), 150);
        // a tired one rests: TIRED by 1, then 0, and the walk to 1 is as at first
        CrowMiles w = Due.told("country;place 0 0 0;place 0 3 4;place 0 9 9;crow 0 0;crow 2 0;");
        w.flies(1, 1);
        due.is("31: TIRED goes on from now", w.years(1, 2), 113);
    }

    private static void yearsBeyondTheLastHour() {
        CrowMiles x = Due.told("country;place 0 0 0;place 0 3 4;place 0 9 9;crow 0 0;crow 2 0;crow 1 0;");
        for (int i = 0; i < 102; i++) {
            x.hours(99);
        }
        due.is("31: HOUR 9999", x.count(2), 9999);
        // hour 15 of a day at first; the last is let go at hour 27 behind it, which is 3 of a day
        due.is("31: HOURS go beyond 9999", x.years(1, 6), 185 + 180 + 180 + 110 + 110);
        due.is("31: the HOUR stays", x.count(2), 9999);
    }
}
