import java.lang.reflect.InvocationTargetException;
import java.util.Arrays;
import java.util.Random;

/**
 * All promises: runs of 256 calls, made up by fixed seeds, on the class and on the model; every answer, and the
 * digest behind every call, must be the same, and no call may throw. With the digests an object has 512 calls, which
 * is as many as are promised. An argument RUNS= tells how many runs.
 */
public final class ModelTest {
    private static final Due due = new Due("ModelTest");
    private static final int CALLS = 256;

    public static void main(String[] args) throws Exception {
        int runs = 1500;
        for (String arg : args) {
            if (arg.startsWith("RUNS=")) {
                runs = Integer.parseInt(arg.substring(5));
            }
        }
        for (int run = 0; run < runs; run++) {
            new ModelTest(run).go();
        }
        due.end();
    }

    private final int run;
    private final Random random;
    private final CrowMiles x = new CrowMiles();
    private final Model model = new Model();
    private int done;
    private boolean same = true;
    private int firstIsAt;

    private ModelTest(int run) {
        this.run = run;
        this.random = new Random(run);
    }

    private void go() throws Exception {
        if (run % 7 == 3) {
            // near the last hour
            for (int i = 0; i < 101; i++) {
                call("hours", 99);
            }
        }
        if (run % 5 != 4) {
            buildUp();
        }
        if (run % 7 == 5) {
            // near the most that one may be tired
            for (int i = 0; i < 98; i++) {
                call("flies", 0, i % 2);
            }
        }
        while (done < CALLS && same) {
            if (random.nextInt(run % 6 == 5 ? 4 : 300) == 0) {
                readText();
            } else if (random.nextInt(model.count(1) == 0 ? 10 : 150) == 0) {
                buildUp();
            } else {
                anyCall();
            }
        }
    }

    private void buildUp() throws Exception {
        int places = random.nextInt(9);
        int span = 1 + random.nextInt(10);
        for (int i = 0; i < places; i++) {
            call("place", random.nextInt(6), random.nextInt(span), random.nextInt(span));
        }
        int crows = random.nextInt(4);
        for (int i = 0; i < crows; i++) {
            call("crow", random.nextInt(6), random.nextInt(7));
        }
    }

    /**
     * What each call takes: c a CROW, p a PLACE, k a KIND, x an X or Y, l the number of one in a list, d of a DEED,
     * b a byte, h hours, o odds, s a seed, y years, N a whole NOTE, M a whole MARK, a figure: less than that.
     */
    private static final String[] SHAPES = {"country", "place kxx", "crow kp", "type b", "clear", "read", "flies cp",
        "rests c", "hours h", "undo", "of c3", "about p3", "straight pp", "far cpp", "way cppl", "round cl", "clash cl",
        "late cpp2", "standard pp", "book d2", "note N", "mark M", "forget 3", "is p", "look p", "kinds c", "ask c",
        "owner cl", "wind cppo", "years sy", "part 2", "image 2", "from 2", "status 3", "count 9", "digest",
        "flies cp", "flies cp", "flies cp", "flies cp", "flies cp", "flies cp", "undo", "note N", "mark M"};

    /** The limits of all numbers, on both sides. */
    private static final int[] EDGES = {-3, -2, -1, 0, 1, 2, 3, 4, 5, 6, 7, 8, 9, 10, 11, 12, 18, 19, 23, 24, 60, 61, 98, 99,
        100, 127, 128, 499, 500, 501, 899, 900, 901, 999999, 1000000, Integer.MIN_VALUE, Integer.MAX_VALUE};

    private void anyCall() throws Exception {
        String[] shape = SHAPES[random.nextInt(SHAPES.length)].split(" ");
        String name = shape[0];
        // these take much away, and would leave small countries alone
        if (name.equals("country") && random.nextInt(4) != 0 || name.equals("forget") && random.nextInt(3) != 0) {
            return;
        }
        int[] a = shape.length == 1 ? new int[0] : argumentsOf(shape[1]);
        if (a.length > 0 && random.nextInt(run % 4 == 1 ? 3 : 25) == 0) {
            a[random.nextInt(a.length)] = EDGES[random.nextInt(EDGES.length)];
        }
        call(name, a);
    }

    private int[] argumentsOf(String shape) {
        if (shape.equals("N")) {
            int m = random.nextInt(random.nextBoolean() ? 15 : 501);
            int t = random.nextInt(24);
            int far = random.nextInt(6) == 0 ? random.nextInt(901) : Model.farTo(random.nextInt(6), m, t);
            return new int[] {argument('p'), m, t, far};
        }
        if (shape.equals("M")) {
            int d = random.nextInt(random.nextBoolean() ? 3 : 19);
            int t = random.nextInt(24);
            int n = random.nextInt(random.nextBoolean() ? 5 : 100);
            int made = random.nextInt(6) == 0 ? random.nextInt(501) : Model.makes(random.nextInt(6), d, t, n);
            return new int[] {argument('c'), d, t, n, made};
        }
        int[] a = new int[shape.length()];
        for (int i = 0; i < a.length; i++) {
            a[i] = argument(shape.charAt(i));
        }
        return a;
    }

    private int argument(char what) {
        switch (what) {
            case 'c': return random.nextInt(Math.max(1, model.count(1)));
            case 'p': return random.nextInt(Math.max(1, model.count(0)));
            case 'k': return random.nextInt(6);
            case 'x': return random.nextInt(10);
            case 'l': return random.nextInt(3) == 0 ? -1 : random.nextInt(random.nextBoolean() ? 4 : 12);
            case 'd': return random.nextInt(13);
            case 'b': return random.nextInt(128);
            case 'h': return 1 + random.nextInt(99);
            case 'o': return random.nextInt(11);
            case 's': return random.nextInt(1000000);
            case 'y': return random.nextInt(61);
            default: return random.nextInt(what - '0');
        }
    }

    private void readText() throws Exception {
        StringBuilder text = new StringBuilder("country;");
        int items = 2 + random.nextInt(11);
        firstIsAt = 0;
        for (int i = 0; i < items; i++) {
            item(text, i);
            text.append(random.nextInt(9) == 0 ? " ; " : ";");
        }
        if (random.nextBoolean()) {
            spoil(text);
        }
        call("clear");
        for (int i = 0; i < text.length(); i++) {
            call("type", text.charAt(i));
        }
        call("read");
    }

    private void item(StringBuilder text, int before) {
        String[] words = {"place", "crow", "fly", "fly", "fly", "rest", "hours", "country", "crows"};
        String word = before < 2 ? "place" : before == 2 ? "crow" : words[random.nextInt(random.nextInt(9) == 0 ? 9 : 7)];
        text.append(word);
        switch (word) {
            case "place":
                number(text, 6);
                number(text, 10);
                number(text, 10);
                break;
            case "crow":
                number(text, 6);
                number(text, 1);
                break;
            case "fly":
                // to and fro, for the most part, as she may not fly to where she is
                firstIsAt = random.nextInt(20) == 0 ? firstIsAt : 1 - firstIsAt;
                text.append(" 0 ").append(firstIsAt);
                break;
            case "rest":
                number(text, random.nextInt(9) == 0 ? 3 : 1);
                break;
            default:
                number(text, 100);
                break;
        }
    }

    private void spoil(StringBuilder text) {
        String signs = " ;;019azplcA-\t\u007f\u0000/:`{";
        int changes = 1 + random.nextInt(2);
        for (int i = 0; i < changes; i++) {
            char sign = signs.charAt(random.nextInt(signs.length()));
            int at = random.nextInt(text.length());
            if (random.nextBoolean()) {
                text.setCharAt(at, sign);
            } else {
                text.insert(at, sign);
            }
        }
        if (random.nextInt(5) == 0) {
            text.setLength(random.nextInt(text.length()));
        }
    }

    private void number(StringBuilder text, int bound) {
        text.append(random.nextInt(40) == 0 ? "" : " ");
        int n = random.nextInt(40) == 0 ? random.nextInt(120) : random.nextInt(bound);
        text.append(random.nextInt(12) == 0 && n < 10 ? "0" : "").append(n);
    }

    private void call(String name, int... a) throws Exception {
        if (done >= CALLS || !same) {
            return;
        }
        done++;
        Class<?>[] types = new Class<?>[a.length];
        Arrays.fill(types, int.class);
        Object[] boxed = Arrays.stream(a).boxed().toArray();
        String told = "run " + run + ", call " + done + ": " + name + Arrays.toString(a);
        try {
            long got = ((Number) CrowMiles.class.getMethod(name, types).invoke(x, boxed)).longValue();
            long want = ((Number) Model.class.getDeclaredMethod(name, types).invoke(model, boxed)).longValue();
            due.is(told, got, want);
            long digest = x.digest();
            due.is(told + ", digest behind it", digest, model.digest());
            same = got == want && digest == model.digest();
        } catch (InvocationTargetException e) {
            due.is(told + " threw " + e.getCause(), 1, 0);
            same = false;
        }
    }
}
