import java.lang.management.ManagementFactory;

/** All calls of a run live in one small room: nothing is made but by the constructor, and that little. */
public final class RoomTest {
    private static final Due due = new Due("RoomTest");
    private static final String TEXT = "country;place 1 0 0;place 2 3 7;place 3 6 4;place 4 9 1;place 5 2 8;place 0 5 5;"
        + "place 1 8 2;crow 1 0;crow 2 2;crow 3 4;fly 0 1;rest 0;";

    public static void main(String[] args) {
        com.sun.management.ThreadMXBean threads = (com.sun.management.ThreadMXBean) ManagementFactory.getThreadMXBean();
        long id = Thread.currentThread().getId();
        // the first time the machine makes things of its own for what it loads
        allCalls(new CrowMiles());
        threads.getThreadAllocatedBytes(id);

        // one for each time, as no object is promised for more than 512 calls
        CrowMiles[] fresh = new CrowMiles[50];
        for (int i = 0; i < fresh.length; i++) {
            fresh[i] = new CrowMiles();
        }
        long before = threads.getThreadAllocatedBytes(id);
        for (CrowMiles x : fresh) {
            allCalls(x);
        }
        long made = threads.getThreadAllocatedBytes(id) - before;
        due.holds("calls make nothing, not " + made + " bytes", made < 2000);

        before = threads.getThreadAllocatedBytes(id);
        for (int i = 0; i < 50; i++) {
            due.is("a new one's PLACES", new CrowMiles().count(0), 0);
        }
        made = (threads.getThreadAllocatedBytes(id) - before) / 50;
        due.holds("a new one makes little, not " + made + " bytes", made < 40000);
        due.end();
    }

    private static void allCalls(CrowMiles x) {
        x.clear();
        for (int i = 0; i < TEXT.length(); i++) {
            x.type(TEXT.charAt(i));
        }
        x.read();
        for (int i = 0; i < 20; i++) {
            x.flies(i % 3, i % 7);
        }
        x.hours(5);
        x.rests(1);
        x.undo();
        for (int i = 0; i < 7; i++) {
            x.note(i, 10 * i, i, 10 * i);
            x.mark(i % 3, i, i, i, 10 * i);
        }
        for (int c = 0; c < 3; c++) {
            for (int k = -2; k < 4; k++) {
                x.way(c, 0, 6, k);
                x.round(c, k);
                x.clash(c, k);
                x.owner(c, k);
                x.of(c, k);
                x.book(k, 0);
            }
            x.late(c, 0, 1, 0);
            x.kinds(c);
            x.ask(c);
            x.wind(c, 0, 1, 3);
            x.far(c, 0, 1);
        }
        x.straight(0, 1);
        x.standard(0, 1);
        x.about(0, 0);
        x.is(0);
        x.look(0);
        x.years(1, 60);
        x.part(0);
        x.image(0);
        x.forget(0);
        x.forget(1);
        x.forget(2);
        x.from(0);
        x.status(0);
        x.count(0);
        x.digest();
        x.country();
        x.place(0, 0, 0);
        x.crow(0, 0);
    }
}
