import java.lang.reflect.Constructor;
import java.lang.reflect.Field;
import java.lang.reflect.Method;
import java.lang.reflect.Modifier;
import java.nio.charset.StandardCharsets;
import java.nio.file.Files;
import java.nio.file.Path;
import java.util.ArrayList;
import java.util.Arrays;
import java.util.List;
import java.util.TreeSet;
import java.util.regex.Pattern;

/** The public face of the document, and what of LANGUAGE.md can be seen from outside or in the source (argument 1). */
public final class FaceTest {
    private static final Due due = new Due("FaceTest");
    private static final String FACE = "country/0 place/3 crow/2 type/1 clear/0 read/0 flies/2 rests/1 hours/1 undo/0 of/2"
        + " about/2 straight/2 far/3 way/4 round/2 clash/2 late/4 standard/2 book/2 note/4 mark/5 forget/1 is/1 look/1"
        + " kinds/1 ask/1 owner/2 wind/4 years/2 part/1 image/1 from/1 status/1 count/1 digest/0";

    public static void main(String[] args) throws Exception {
        face();
        constants();
        members();
        classesInside();
        if (args.length > 0) {
            source(Files.readString(Path.of(args[0]), StandardCharsets.ISO_8859_1));
        }
        due.end();
    }

    private static void face() {
        due.is("the class is public and final, modifiers", CrowMiles.class.getModifiers(), Modifier.PUBLIC | Modifier.FINAL);
        TreeSet<String> want = new TreeSet<>(Arrays.asList(FACE.split(" ")));
        TreeSet<String> got = new TreeSet<>();
        for (Method m : CrowMiles.class.getDeclaredMethods()) {
            if (Modifier.isPublic(m.getModifiers())) {
                got.add(m.getName() + "/" + m.getParameterCount());
                boolean isLong = m.getName().equals("part") || m.getName().equals("digest");
                due.holds(m.getName() + " answers as told", m.getReturnType() == (isLong ? long.class : int.class));
                due.holds(m.getName() + " is no static one", !Modifier.isStatic(m.getModifiers()));
                due.holds(m.getName() + " takes numbers", Arrays.stream(m.getParameterTypes()).allMatch(t -> t == int.class));
            }
        }
        due.holds("the face is " + want + ", got " + got, want.equals(got));
        Constructor<?>[] constructors = CrowMiles.class.getDeclaredConstructors();
        due.is("constructors", constructors.length, 1);
        due.is("its parameters", constructors[0].getParameterCount(), 0);
        due.holds("it is public", Modifier.isPublic(constructors[0].getModifiers()));
    }

    private static void constants() {
        due.is("NONE", CrowMiles.NONE, -1);
        due.is("BAD", CrowMiles.BAD, -2);
        due.is("NO", CrowMiles.NO, -3);
        due.is("FULL", CrowMiles.FULL, -4);
    }

    private static void members() {
        List<String> open = new ArrayList<>(Arrays.asList("NONE", "BAD", "NO", "FULL"));
        for (Field f : CrowMiles.class.getDeclaredFields()) {
            due.holds("field " + f.getName() + " is private or told",
                    Modifier.isPrivate(f.getModifiers()) || open.contains(f.getName()));
        }
        for (Method m : CrowMiles.class.getDeclaredMethods()) {
            due.holds("method " + m.getName() + " is private or public",
                    Modifier.isPrivate(m.getModifiers()) || Modifier.isPublic(m.getModifiers()));
        }
    }

    private static void classesInside() {
        TreeSet<String> names = new TreeSet<>();
        for (String call : FACE.split(" ")) {
            names.add(call.substring(0, call.indexOf('/')));
        }
        List<Class<?>> all = new ArrayList<>(Arrays.asList(CrowMiles.class.getDeclaredClasses()));
        due.holds("at most twelve classes", all.size() + 1 <= 12);
        for (Class<?> c : all) {
            due.holds(c.getName() + " is static", Modifier.isStatic(c.getModifiers()));
            due.holds(c.getName() + " is not seen outside",
                    !Modifier.isPublic(c.getModifiers()) && !Modifier.isProtected(c.getModifiers()));
        }
        all.add(CrowMiles.class);
        for (Class<?> c : all) {
            int fields = 0;
            for (Field f : c.getDeclaredFields()) {
                boolean isStatic = Modifier.isStatic(f.getModifiers());
                due.holds("static " + f + " is final", !isStatic || Modifier.isFinal(f.getModifiers()));
                fields += isStatic ? 0 : 1;
            }
            due.holds(c.getName() + " has at most twenty fields", fields <= 20);
            for (Method m : c.getDeclaredMethods()) {
                due.holds(m + " takes at most seven", m.getParameterCount() <= 7);
                due.holds(m + " bears a name of its own",
                        Modifier.isPublic(m.getModifiers()) || !names.contains(m.getName()));
            }
        }
    }

    private static void source(String text) {
        String code = text.replaceAll("(?s)/\\*.*?\\*/", "").replaceAll("//[^\n]*", "");
        String[] banned = {"\\bthrow", "\\btry\\b", "\\bcatch\\b", "\\bsynchronized\\b", "\\bassert\\b", "->", "::",
            "\\bstatic\\s*\\{", "\\bimport\\b", "\\bpackage\\b", "Exact\\b", "\\bequals\\b", "\\bhashCode\\b",
            "\\btoString\\b", "\\bvar\\b", "\\bdouble\\b", "\\bfloat\\b", "\\bvolatile\\b", "\\bnative\\b"};
        for (String b : banned) {
            due.holds("no " + b + " in the source", !Pattern.compile(b).matcher(code).find());
        }
        for (int i = 0; i < text.length(); i++) {
            if (text.charAt(i) > 126) {
                due.holds("sign " + (int) text.charAt(i) + " at " + i, false);
            }
        }
        int length = 0;
        for (String line : code.split("\n")) {
            length = line.matches("\\s*(public|private|static|int|long|void|boolean).*\\) \\{") ? 1 : length + 1;
            due.holds("methods stay under sixty lines: " + line, !line.matches(" {4,8}\\}") || length <= 60);
        }
    }
}
