/** Lands that tests begin from, and all that can be seen of one from outside. None takes more than 400 calls. */
final class Lands {
    private static final String TEXT = "country;place 0 0 0;place 1 9 9;crow 5 0;fly 0 1;hours 9;";

    private Lands() {
    }

    /** Some of everything, and room for more of it: 3 places, 2 crows, hour 14. */
    static CrowMiles small() {
        CrowMiles x = new CrowMiles();
        x.place(0, 0, 0);
        x.place(1, 3, 4);
        x.place(5, 9, 9);
        x.crow(2, 0);
        x.crow(3, 1);
        x.flies(0, 1);
        x.image(0);
        x.hours(5);
        x.rests(1);
        x.note(0, 10, 0, 10);
        x.mark(1, 1, 0, 3, 38);
        x.wind(0, 0, 2, 3);
        Due.type(x, "country;hours 7;");
        x.place(9, 9, 9);
        x.from(1);
        return x;
    }

    /** As much of everything as there may be: also hour 9999, and crow 0 tired by 99. */
    static CrowMiles full() {
        CrowMiles x = new CrowMiles();
        for (int i = 0; i < 7; i++) {
            x.place(i % 6, i, 9 - i);
        }
        x.crow(2, 0);
        x.crow(3, 1);
        x.crow(1, 2);
        waitTill(x, 9898);
        x.image(0);
        for (int i = 0; i < 99; i++) {
            x.flies(0, 1 - i % 2);
        }
        x.flies(1, 0);
        for (int i = 0; i < 6; i++) {
            x.note(i, 10 * i, i, 10 * i);
            x.mark(i % 3, i, i, i, 10 * i);
        }
        x.image(1);
        x.rests(2);
        x.wind(0, 0, 1, 3);
        StringBuilder text = new StringBuilder(TEXT);
        while (text.length() < 150) {
            text.append(' ');
        }
        Due.type(x, text.toString());
        return x;
    }

    /** Hours go by until it is that hour. */
    static void waitTill(CrowMiles x, int hour) {
        int now = x.count(2);
        for (int i = 0; i < 102 && now < hour; i++) {
            now = x.hours(Math.min(99, hour - now));
        }
    }

    /** All but STATUS that can be seen of one, its past, its images and its text too; it is used up by this. */
    static String seen(CrowMiles x) {
        StringBuilder all = new StringBuilder();
        past(x, all);
        for (int i = 0; i < 2; i++) {
            if (x.from(i) == 1) {
                past(x, all.append("image ").append(i).append(": "));
            }
        }
        all.append("read: ").append(x.read()).append(' ').append(x.digest());
        return all.toString();
    }

    private static void past(CrowMiles x, StringBuilder all) {
        all.append(x.digest()).append(' ');
        for (int i = 0; i < 20 && x.count(7) > 0; i++) {
            all.append(x.undo()).append(' ').append(x.digest()).append(' ');
        }
    }
}
