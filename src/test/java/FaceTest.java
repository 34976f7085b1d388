import java.io.IOException;
import java.lang.management.ManagementFactory;
import java.lang.reflect.Constructor;
import java.lang.reflect.Field;
import java.lang.reflect.Method;
import java.lang.reflect.Modifier;
import java.nio.file.Files;
import java.nio.file.Path;
import java.util.Map;
import java.util.TreeMap;
import java.util.TreeSet;

/** The public face, the rules of LANGUAGE.md that can be looked at here, and the room that calls take. */
public final class FaceTest {
    /** Each method of the document with how many ints it takes. */
    private static final String FACE = "feed1 ground0 fault0 told1 cell3 height3 moon2 house2 crack2 pass1 roll1 steep1 load3 prop2 "
        + "shift2 drift1 level3 aslant1 turn3 most4 bell5 breaks2 props1 soonest3 least5 water3 whose2 stays1 see4 fits2 look1 "
        + "odds6 write1 tear0 judge1 seed1 keep1 goBack1";

    public static void main(String[] args) throws IOException {
        constants();
        members();
        nested();
        source();
        room();
        Check.end();
    }

    private static void constants() {
        Check.due("NONE", TidedGround.NONE, -1);
        Check.due("UNKNOWN", TidedGround.UNKNOWN, -1000000001);
        Check.due("OUTSIDE", TidedGround.OUTSIDE, -1000000002);
        Check.due("NOT", TidedGround.NOT, -1000000003);
        Check.due("FULL", TidedGround.FULL, -1000000004);
    }

    private static void same(String what, Object got, Object want) {
        Check.due(what + ": " + got + ", due is " + want, got.equals(want) ? 1 : 0, 1);
    }

    private static void members() {
        Class<?> c = TidedGround.class;
        same("the class", Modifier.toString(c.getModifiers()), "public final");
        TreeSet<String> face = new TreeSet<>();
        for (Method m : c.getDeclaredMethods()) {
            if (Modifier.isPrivate(m.getModifiers())) {
                continue;
            }
            same(m.getName(), Modifier.toString(m.getModifiers()) + " " + m.getReturnType(), "public int");
            for (Class<?> p : m.getParameterTypes()) {
                same("what " + m.getName() + " takes", p, int.class);
            }
            face.add(m.getName() + m.getParameterCount());
        }
        same("the face", face, new TreeSet<>(java.util.List.of(FACE.split(" "))));
        for (Constructor<?> k : c.getDeclaredConstructors()) {
            same("the constructor", k.toString(), "public TidedGround()");
        }
        TreeSet<String> fields = new TreeSet<>();
        for (Field f : c.getDeclaredFields()) {
            if (!Modifier.isPrivate(f.getModifiers())) {
                same(f.getName(), Modifier.toString(f.getModifiers()) + " " + f.getType(), "public static final int");
                fields.add(f.getName());
            }
        }
        same("the constants", fields, new TreeSet<>(java.util.List.of("NONE", "UNKNOWN", "OUTSIDE", "NOT", "FULL")));
    }

    private static void nested() {
        TreeMap<String, Class<?>> all = new TreeMap<>();
        all.put("TidedGround", TidedGround.class);
        for (Class<?> n : TidedGround.class.getDeclaredClasses()) {
            all.put(n.getSimpleName(), n);
            Check.due(n + " is static", Modifier.isStatic(n.getModifiers()) ? 1 : 0, 1);
            Check.due(n + " is not public", Modifier.isPublic(n.getModifiers()) ? 1 : 0, 0);
        }
        Check.due("twelve classes at most", all.size() <= 12 ? 1 : 0, 1);
        for (Map.Entry<String, Class<?>> e : all.entrySet()) {
            int fields = 0;
            for (Field f : e.getValue().getDeclaredFields()) {
                boolean fixed = Modifier.isStatic(f.getModifiers());
                Check.due(f + " is final if static", fixed && !Modifier.isFinal(f.getModifiers()) ? 1 : 0, 0);
                fields += fixed ? 0 : 1;
            }
            Check.due("fields of " + e.getKey(), fields <= 20 ? 1 : 0, 1);
            for (Method m : e.getValue().getDeclaredMethods()) {
                Check.due(m + " takes seven at most", m.getParameterCount() <= 7 ? 1 : 0, 1);
                boolean hidden = !Modifier.isPublic(m.getModifiers());
                Check.due(m + " has a name of its own", hidden && FACE.matches(".*\\b" + m.getName() + "\\d.*") ? 1 : 0, 0);
            }
        }
    }

    private static void source() throws IOException {
        String text = Files.readString(Path.of("src/main/java/TidedGround.java"));
        String code = text.replaceAll("(?s)/\\*.*?\\*/", "").replaceAll("//[^\n]*", "");
        String[] words = {"throw", "throws", "try", "catch", "synchronized", "assert", "import", "package", "lambda", "volatile",
            "System", "Thread", "Object", "protected", "float", "double", "Random", "equals", "hashCode", "toString"};
        for (String word : words) {
            Check.due("'" + word + "' stands in the class", code.matches("(?s).*\\b" + word + "\\b.*") ? 1 : 0, 0);
        }
        for (String sign : new String[] {"->", "::", "[][]", "\""}) {
            Check.due("'" + sign + "' stands in the class", code.contains(sign) ? 1 : 0, 0);
        }
        for (int i = 0; i < text.length(); i++) {
            if (text.charAt(i) > 126 || text.charAt(i) < 32 && text.charAt(i) != '\n') {
                Check.due("letter " + i + " of the class", text.charAt(i), 32);
            }
        }
    }

    /** All rows are made by the constructor: thousands of the dearest calls must take no room worth naming. */
    private static void room() {
        String text = "g6 4 50 9;m1 2 0,1,2,3,4,5,6,7,8;m3 1 18,0,9,1,17,3,5,2,4;m8 5 9,9,0,18,0,18,9,9,3;h1 1 5;w0 0 9;w1 1 9;d1 200;";
        TidedGround g = Check.of(text);
        dearCalls(g, text);
        com.sun.management.ThreadMXBean bean = (com.sun.management.ThreadMXBean) ManagementFactory.getThreadMXBean();
        long before = bean.getThreadAllocatedBytes(Thread.currentThread().getId());
        for (int i = 0; i < 20; i++) {
            dearCalls(g, text);
        }
        long taken = bean.getThreadAllocatedBytes(Thread.currentThread().getId()) - before;
        Check.due("bytes that calls took: " + taken, taken < 20000 ? 1 : 0, 1);
    }

    private static void dearCalls(TidedGround g, String text) {
        Check.feed(g, text);
        g.ground();
        g.look(0);
        g.fits(-1, 0);
        g.see(0, 0, 0, 50);
        g.soonest(0, 53, 7);
        g.least(0, 53, 7, 40, 3);
        g.level(16777215, 1, 0);
        g.aslant(0);
        g.turn(0, 0, 1);
        g.most(0, 0, 0, 0);
        g.bell(0, 0, 999, 0, 1);
        g.breaks(0, 0);
        g.props(1);
        g.water(99, 0, 0);
        g.stays(0);
        g.whose(0, 1);
        g.drift(99);
        g.write(1);
        g.judge(1);
        g.keep(0);
        g.goBack(0);
        g.odds(0, 5, 0, 0, 3, 0);
    }
}
