import java.io.IOException;
import java.lang.management.ManagementFactory;
import java.lang.reflect.Constructor;
import java.lang.reflect.Field;
import java.lang.reflect.Method;
import java.lang.reflect.Modifier;
import java.nio.file.Files;
import java.nio.file.Path;
import java.util.ArrayList;
import java.util.Arrays;
import java.util.List;
import java.util.TreeSet;
import java.util.regex.Matcher;
import java.util.regex.Pattern;

/** The document's face, the rules of LANGUAGE.md that can be seen from outside, and the room that a run takes. */
public final class RulesTest {
    private static final String[] FACE = {
        "EditFinder()", "apart(int,int,int,int,boolean,int)", "byteAt(int)", "cut(int,int)", "find(int,int,boolean)",
        "has(int,int,int)", "hit(int,int)", "insert(int)", "length()", "line(int)", "lines(int,int,boolean)",
        "nearest(int,boolean,int)", "pattern(int)", "place()", "replace(int,int,boolean)", "step(int,int)",
        "type(long,int)", "undo()", "which(int,int,boolean)", "whole(int,int,int,boolean,int)",
        "ABOVE=-4", "BAD=-2", "NONE=-1", "REFUSED=-3",
    };
    private static final String[] FORBIDDEN = {
        "\\bthrow\\b", "\\btry\\b", "\\bcatch\\b", "\\bsynchronized\\b", "\\bassert\\b", "->", "::", "\\bimport\\b",
        "\\bpackage\\b", "Exact\\b", "\\bprotected\\b", "\\bdouble\\b", "\\bfloat\\b", "\\bnull\\b", "static\\s*\\{",
        "\\bThread\\b", "\\bRandom\\b", "currentTimeMillis", "nanoTime",
    };
    private static final int MOST_METHOD_LINES = 60;
    private static final int MOST_PARAMETERS = 7;
    private static final int MOST_CLASSES = 12;
    private static final int MOST_FIELDS = 20;
    private static final int CALLS_OF_AN_OBJECT = 512;

    public static void main(String[] args) throws Exception {
        face();
        classesInside();
        source();
        room();
        Check.finish("RulesTest");
    }

    private static void face() throws IllegalAccessException {
        Class<?> type = EditFinder.class;
        Check.isTrue("public and final", Modifier.isPublic(type.getModifiers()) && Modifier.isFinal(type.getModifiers()));
        TreeSet<String> seen = new TreeSet<>();
        for (Constructor<?> made : type.getDeclaredConstructors()) {
            seen.add("EditFinder" + parameters(made.getParameterTypes()));
        }
        for (Method method : type.getDeclaredMethods()) {
            if (!Modifier.isPrivate(method.getModifiers())) {
                seen.add(method.getName() + parameters(method.getParameterTypes()));
                Check.isTrue(method + " answers an int", method.getReturnType() == int.class);
            }
        }
        for (Field field : type.getDeclaredFields()) {
            if (!Modifier.isPrivate(field.getModifiers())) {
                seen.add(field.getName() + "=" + field.getInt(null));
            }
        }
        Check.isTrue("the face is " + seen, seen.equals(new TreeSet<>(Arrays.asList(FACE))));
    }

    private static String parameters(Class<?>[] types) {
        List<String> names = new ArrayList<>();
        for (Class<?> type : types) {
            names.add(type.getName());
        }
        return "(" + String.join(",", names) + ")";
    }

    private static void classesInside() {
        List<Class<?>> all = new ArrayList<>(Arrays.asList(EditFinder.class.getDeclaredClasses()));
        all.add(EditFinder.class);
        Check.isTrue("few classes", all.size() <= MOST_CLASSES);
        TreeSet<String> faceNames = new TreeSet<>();
        for (String member : FACE) {
            faceNames.add(member.replaceAll("[(=].*", ""));
        }
        for (Class<?> type : all) {
            Check.isTrue(type + " is static", type == EditFinder.class || Modifier.isStatic(type.getModifiers()));
            int fields = 0;
            for (Field field : type.getDeclaredFields()) {
                boolean isStatic = Modifier.isStatic(field.getModifiers());
                fields += isStatic ? 0 : 1;
                Check.isTrue(field + " is final", !isStatic || Modifier.isFinal(field.getModifiers()));
            }
            Check.isTrue(type + " has few fields", fields <= MOST_FIELDS);
            for (Method method : type.getDeclaredMethods()) {
                Check.isTrue(method + " takes few", method.getParameterCount() <= MOST_PARAMETERS);
                Check.isTrue(method + " bears a name of its own",
                    Modifier.isPublic(method.getModifiers()) || !faceNames.contains(method.getName()));
            }
        }
    }

    private static void source() throws IOException {
        String text = Files.readString(Path.of("src/main/java/EditFinder.java"));
        String code = text.replaceAll("(?s)/\\*.*?\\*/", "").replaceAll("//[^\n]*", "");
        for (String word : FORBIDDEN) {
            Matcher found = Pattern.compile(word).matcher(code);
            Check.isTrue("no " + word + " in the source", !found.find());
        }
        int start = 0;
        String[] lines = text.split("\n");
        for (int i = 0; i < lines.length; i++) {
            if (lines[i].matches(" {4,8}[^ ].*\\) \\{")) {
                start = i;
            }
            if (lines[i].matches(" {4,8}\\}")) {
                Check.isTrue("the method that ends in line " + (i + 1) + " is short", i - start < MOST_METHOD_LINES || start == 0);
            }
        }
    }

    /** After its constructor an object makes nothing more, in a run of its dearest calls. */
    private static void room() {
        com.sun.management.ThreadMXBean counter = (com.sun.management.ThreadMXBean) ManagementFactory.getThreadMXBean();
        long self = Thread.currentThread().getId();
        long most = 0;
        long least = Long.MAX_VALUE;
        for (int round = 0; round < 3; round++) {
            EditFinder x = new EditFinder();
            long before = counter.getThreadAllocatedBytes(self);
            dearRun(x);
            long made = counter.getThreadAllocatedBytes(self) - before;
            most = Math.max(most, made);
            least = Math.min(least, made);
        }
        Check.isTrue("calls make nothing: " + least + " to " + most + " bytes", least < CALLS_OF_AN_OBJECT);
        long before = counter.getThreadAllocatedBytes(self);
        EditFinder last = new EditFinder();
        long made = counter.getThreadAllocatedBytes(self) - before;
        Check.isTrue("a new object takes " + made + " bytes", made < 250_000 && last.length() == 0);
    }

    private static void dearRun(EditFinder x) {
        for (int i = 0; i < 180; i++) {
            x.type(0x6162616261626162L, 8);
            if (i % 45 == 44) {
                x.insert(0);
            }
        }
        for (int i = 0; i < 25; i++) {
            x.type(0x6162616261626162L, 8);
        }
        x.pattern(0);
        for (int i = 0; i < 30; i++) {
            x.find(0, 200, true);
            x.hit(i, 3);
            x.step(1400, i);
            x.nearest(0, true, 0);
            x.lines(0, 200, true);
            x.replace(0, 199, true);
            x.undo();
            x.whole(0, 0, 1440, true, 2000);
            x.which(0, 1440, true);
            x.apart(0, 1000, 440, 1440, true, 2000);
        }
    }
}
