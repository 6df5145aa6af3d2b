import java.lang.reflect.Constructor;
import java.lang.reflect.Field;
import java.lang.reflect.Method;
import java.lang.reflect.Modifier;
import java.nio.file.Files;
import java.nio.file.Path;
import java.util.ArrayList;
import java.util.Arrays;
import java.util.List;
import java.util.Set;
import java.util.TreeSet;
import java.util.regex.Matcher;
import java.util.regex.Pattern;

/** The public face, the rules of the language that can be seen from outside, and what calls make. */
public final class FaceTest {
    private static final Check CHECK = new Check("FaceTest");
    private static final Path SOURCE = Path.of("src/main/java/ScopedPhrases.java");
    /** A line that begins a method or a constructor: in the class, or in one inside it. */
    private static final Pattern METHOD =
        Pattern.compile("( {4}| {8})(?!if\\b|for\\b|while\\b|switch\\b)\\w[\\w\\[\\] ]*\\(.*\\{");
    private static final String[] FACE = {
        "feed 1", "end 1", "text 0", "fault 0", "rule 1", "phrase 2", "becomes 3", "draw 1", "within 2", "ahead 2",
        "row 2", "reading 1", "holds 1", "small 2", "many 1", "alike 1", "entails 2", "most 1", "witness 2", "world 1",
        "things 1", "is 3", "does 4", "told 3", "keep 1", "back 1", "sheet 3", "lay 3", "read 4", "count 1"};
    private static final String[] FORBIDDEN = {
        "throw", "throws", "try", "catch", "synchronized", "assert", "import", "package", "protected", "System",
        "Object", "double", "float", "var", "record"};

    public static void main(String[] args) throws Exception {
        members();
        constants();
        source();
        sizes();
        library();
        nothingIsMade();
        CHECK.close();
    }

    private static void members() {
        Class<?> c = ScopedPhrases.class;
        CHECK.that("public and final", Modifier.isPublic(c.getModifiers()) && Modifier.isFinal(c.getModifiers()));
        Constructor<?>[] made = c.getDeclaredConstructors();
        CHECK.that("one public constructor", made.length == 1 && Modifier.isPublic(made[0].getModifiers())
            && made[0].getParameterCount() == 0);
        Set<String> face = new TreeSet<>(Arrays.asList(FACE));
        Set<String> names = new TreeSet<>();
        for (String f : FACE) {
            names.add(f.substring(0, f.indexOf(' ')));
        }
        int found = 0;
        for (Method m : c.getDeclaredMethods()) {
            boolean isPublic = Modifier.isPublic(m.getModifiers());
            CHECK.that(m + " is public or private", isPublic || Modifier.isPrivate(m.getModifiers()));
            CHECK.due(m + " bears a name of the face", names.contains(m.getName()) ? 1 : 0, isPublic ? 1 : 0);
            if (isPublic) {
                found++;
                CHECK.that(m + " is of the face", face.contains(m.getName() + " " + m.getParameterCount()));
                CHECK.that(m + " answers int", m.getReturnType() == int.class && !Modifier.isStatic(m.getModifiers()));
            }
        }
        CHECK.due("public methods", found, FACE.length);
        for (Field f : c.getDeclaredFields()) {
            boolean constant = Arrays.asList("BAD", "STATE", "FULL", "NONE").contains(f.getName());
            CHECK.that(f + " is a constant or private", constant || Modifier.isPrivate(f.getModifiers()));
            CHECK.that(f + " is final", Modifier.isFinal(f.getModifiers()));
            CHECK.that(f + " is of a kind that may be static", !Modifier.isStatic(f.getModifiers())
                || f.getType() == int.class || f.getType() == long.class || f.getType() == long[].class);
        }
        CHECK.that("at most some twelve classes", c.getDeclaredClasses().length < 12);
        for (Class<?> inside : c.getDeclaredClasses()) {
            CHECK.that(inside + " is static", Modifier.isStatic(inside.getModifiers()));
            CHECK.that(inside + " is not public", !Modifier.isPublic(inside.getModifiers()));
            for (Method m : inside.getDeclaredMethods()) {
                CHECK.that(m + " bears no name of the face", !names.contains(m.getName()));
            }
            for (Field f : inside.getDeclaredFields()) {
                CHECK.that(f + " is not static", !Modifier.isStatic(f.getModifiers()));
            }
        }
    }

    private static void constants() throws Exception {
        String[] names = {"BAD", "STATE", "FULL", "NONE"};
        for (int i = 0; i < names.length; i++) {
            Field f = ScopedPhrases.class.getField(names[i]);
            CHECK.that(names[i] + " is public static final int",
                Modifier.isStatic(f.getModifiers()) && Modifier.isFinal(f.getModifiers()) && f.getType() == int.class);
            CHECK.due(names[i], f.getInt(null), -1 - i);
        }
    }

    private static void source() throws Exception {
        String text = Files.readString(SOURCE);
        String bare = bareSource();
        for (String word : FORBIDDEN) {
            CHECK.that("no '" + word + "' in the class", !bare.matches("(?s).*\\b" + word + "\\b.*"));
        }
        CHECK.that("no lambda, no method reference", !bare.contains("->") && !bare.contains("::"));
        CHECK.that("signs 1 to 126 alone", text.chars().allMatch(c -> c == '\n' || (c >= 32 && c < 127)));
    }

    /** Rule 11: at most seven parameters, some sixty lines a method, some twenty fields a class. */
    private static void sizes() throws Exception {
        int declared = 0;
        for (Class<?> c : allClasses()) {
            declared += c.getDeclaredMethods().length + c.getDeclaredConstructors().length;
            int fields = 0;
            for (Field f : c.getDeclaredFields()) {
                fields += Modifier.isStatic(f.getModifiers()) ? 0 : 1;
            }
            CHECK.that(c + " has " + fields + " fields", fields <= 20);
            for (Method m : c.getDeclaredMethods()) {
                CHECK.that(m + " takes at most seven", m.getParameterCount() <= 7);
            }
        }
        int begun = 0;
        int methods = 0;
        String indent = "";
        List<String> lines = Files.readAllLines(SOURCE);
        for (int i = 0; i < lines.size(); i++) {
            Matcher head = METHOD.matcher(lines.get(i));
            if (head.matches()) {
                indent = head.group(1);
                begun = i;
                methods++;
            } else if (begun > 0 && lines.get(i).equals(indent + "}")) {
                CHECK.that("line " + (begun + 1) + " begins a short method", i - begun < 60);
                begun = 0;
            }
        }
        CHECK.due("methods found in the text", methods, declared);
        CHECK.due("a method without an end", begun, 0);
    }

    /** Rule 4: what is called by a point is the class's own, or of the few that it needs of the library. */
    private static void library() throws Exception {
        Set<String> known = new TreeSet<>(Arrays.asList("length", "charAt", "bitCount"));
        for (Class<?> c : allClasses()) {
            for (Method m : c.getDeclaredMethods()) {
                known.add(m.getName());
            }
        }
        Matcher call = Pattern.compile("\\.(\\w+)\\(").matcher(bareSource());
        while (call.find()) {
            CHECK.that(call.group(1) + " may be called", known.contains(call.group(1)));
        }
    }

    private static List<Class<?>> allClasses() {
        List<Class<?>> all = new ArrayList<>(Arrays.asList(ScopedPhrases.class.getDeclaredClasses()));
        all.add(ScopedPhrases.class);
        return all;
    }

    /** The class without its remarks, and with S for each text. */
    private static String bareSource() throws Exception {
        return Files.readString(SOURCE).replaceAll("(?s)/\\*.*?\\*/", " ").replaceAll("//[^\n]*", " ")
            .replaceAll("\"[^\"\n]*\"", "S");
    }

    /** All calls of a run share one room: the calls themselves are to make nothing at all. */
    private static void nothingIsMade() {
        com.sun.management.ThreadMXBean bean =
            (com.sun.management.ThreadMXBean) java.lang.management.ManagementFactory.getThreadMXBean();
        CHECK.that("the meter runs", bean.isThreadAllocatedMemorySupported() && bean.isThreadAllocatedMemoryEnabled());
        ScopedPhrases x = new ScopedPhrases();
        long all = 0;
        // twice: the first time loads what the machine itself needs
        for (int time = 0; time < 2; time++) {
            long before = bean.getCurrentThreadAllocatedBytes();
            for (int i = 0; i < 512; i++) {
                everyCall(x, i);
            }
            all = bean.getCurrentThreadAllocatedBytes() - before;
        }
        CHECK.that("512 rounds of all calls make " + all + " bytes", all < 10000);
        long before = bean.getCurrentThreadAllocatedBytes();
        new ScopedPhrases();
        long one = bean.getCurrentThreadAllocatedBytes() - before;
        CHECK.that("an object takes " + one + " bytes", one < 40000);
    }

    private static int everyCall(ScopedPhrases x, int i) {
        int sum = x.draw(i) + x.feed(i & 127) + x.end(x.count(1)) + x.text() + x.fault() + x.becomes(0, 0, i & 3);
        for (int what = 0; what < 6; what++) {
            sum += x.rule(what) + x.phrase(i & 3, what);
        }
        sum += x.within(0, 0) + x.ahead(0, 0) + x.row(0, 0) + x.reading(123) + x.holds(1) + x.small(1, i) + x.many(1);
        sum += x.alike(1) + x.entails(0, 1) + x.most(0) + x.most(1) + x.witness(0, 1) + x.world(i) + x.things(4);
        sum += x.is(0, 3, 1) + x.does(1, 2, 3, 1) + x.told(3, 2, 3) + x.keep(i & 1) + x.back(i & 1);
        return sum + x.sheet(i & 3, i % 3, 50) + x.lay(i & 3, i % 50, i) + x.read(i & 3, i % 3, 0, 4) + x.count(2);
    }
}
