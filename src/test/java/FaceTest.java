import java.io.IOException;
import java.lang.reflect.Constructor;
import java.lang.reflect.Field;
import java.lang.reflect.Method;
import java.lang.reflect.Modifier;
import java.nio.file.Files;
import java.nio.file.Path;
import java.util.Arrays;
import java.util.HashMap;
import java.util.HashSet;
import java.util.Map;
import java.util.Set;
import java.util.TreeSet;
import java.util.regex.Matcher;
import java.util.regex.Pattern;

/** The public face of the document, and the rules of LANGUAGE.md that can be seen from outside. */
public final class FaceTest {
    private static final String[] FACE = {
        "feed(int, long)", "light(int, int, int)", "as(int, int)", "lightIs(int, int)", "at(int, int)",
        "sector(int, int, int, int)", "doubt(int, int)", "direction(int, int)", "colour(int, int)", "seen(int)",
        "haze(int)", "day(int)", "apart(int, int)", "allApart(int)", "fits(int)", "bearing(int, int, int)", "clear()",
        "fix(boolean)", "may(int)", "fairway(int, boolean)", "kept()", "word(int, int, int, boolean)",
        "out(int, int, int)", "keeper(int, int)", "limit(int, int)", "seas(int)", "overdue()", "landing(int)",
        "proves(int)", "sheet(int, int, int)", "put(int, int, int)", "copy(int, int, int, int, int)", "undo()", "all(int)",
    };

    public static void main(String[] args) throws IOException {
        face();
        members();
        inside();
        source();
        Due.end();
    }

    private static String signature(Method method) {
        StringBuilder text = new StringBuilder(method.getName()).append('(');
        for (Class<?> type : method.getParameterTypes()) {
            text.append(text.charAt(text.length() - 1) == '(' ? "" : ", ").append(type.getName());
        }
        return text.append(')').toString();
    }

    private static void face() {
        Class<?> type = CoastLights.class;
        Due.hold("the class is public and final", Modifier.isPublic(type.getModifiers()) && Modifier.isFinal(type.getModifiers()));
        Constructor<?>[] made = type.getDeclaredConstructors();
        Due.hold("one public constructor", made.length == 1 && Modifier.isPublic(made[0].getModifiers())
            && made[0].getParameterCount() == 0);
        Set<String> there = new TreeSet<>();
        for (Method method : type.getDeclaredMethods()) {
            if (Modifier.isPublic(method.getModifiers())) {
                there.add(signature(method));
                Due.hold(method + " answers an int", method.getReturnType() == int.class);
                Due.hold(method + " is no static one", !Modifier.isStatic(method.getModifiers()));
            }
        }
        Set<String> want = new TreeSet<>(Arrays.asList(FACE));
        Due.hold("the face is " + there + ", due is " + want, there.equals(want));
        Due.due("methods of the face", there.size(), 34);
    }

    private static void members() {
        Set<String> face = new HashSet<>();
        for (String one : FACE) {
            face.add(one.substring(0, one.indexOf('(')));
        }
        for (Method method : CoastLights.class.getDeclaredMethods()) {
            if (Modifier.isPublic(method.getModifiers())) {
                continue;
            }
            Due.hold(method + " must be private", Modifier.isPrivate(method.getModifiers()));
            Due.hold(method + " bears a name of the face", !face.contains(method.getName()));
            Due.hold(method + " has over seven parameters", method.getParameterCount() <= 7);
        }
        for (Field field : CoastLights.class.getDeclaredFields()) {
            Due.hold(field + " must be private", Modifier.isPrivate(field.getModifiers()));
            Due.hold(field + " is static, but not final",
                !Modifier.isStatic(field.getModifiers()) || Modifier.isFinal(field.getModifiers()));
        }
        for (Class<?> type : CoastLights.class.getDeclaredClasses()) {
            for (Method method : type.getDeclaredMethods()) {
                Due.hold(method + " bears a name of the face", !face.contains(method.getName()));
                Due.hold(method + " has over seven parameters", method.getParameterCount() <= 7);
            }
        }
    }

    private static int fieldsOf(Class<?> type) {
        int count = 0;
        for (Field field : type.getDeclaredFields()) {
            count += Modifier.isStatic(field.getModifiers()) ? 0 : 1;
        }
        return count;
    }

    private static void inside() {
        Due.hold("some twenty fields", fieldsOf(CoastLights.class) <= 20);
        Class<?>[] types = CoastLights.class.getDeclaredClasses();
        Due.hold("some twelve classes", types.length < 12);
        for (Class<?> type : types) {
            Due.hold(type + " must be static", Modifier.isStatic(type.getModifiers()));
            Due.hold(type + " must not be public", !Modifier.isPublic(type.getModifiers()));
            Due.hold(type + " has over twenty fields", fieldsOf(type) <= 20);
        }
    }

    private static void source() throws IOException {
        String text = Files.readString(Path.of("src/main/java/CoastLights.java"));
        String code = text.replaceAll("(?s)/\\*.*?\\*/", "").replaceAll("//[^\n]*", "");
        for (String word : new String[] {"\\b(throws?|try|catch|finally|synchronized|assert|import|package|protected)\\b",
            "static \\{", "->", "::", "Exact\\b", "System\\.(?!arraycopy)", "\\b(double|float|Random|Thread)\\b"}) {
            Due.hold("the program has '" + word + "'", !Pattern.compile(word).matcher(code).find());
        }
        for (int i = 0; i < text.length(); i++) {
            char sign = text.charAt(i);
            if (sign != '\n' && (sign < ' ' || sign > '~')) {
                Due.hold("sign " + (int) sign + " in the program", false);
            }
        }
        headings(text);
        library(code);
        loops(code);
        methods(code);
    }

    /** "Ahead of the calls .. the interface says: ---- the list", and so on: each heading, then its calls in order. */
    private static void headings(String text) {
        String[] want = {
            "---- the list", "feed", "light", "as", "lightIs", "at", "sector", "doubt",
            "---- seeing", "direction", "colour", "seen", "haze", "day", "apart", "allApart", "fits",
            "---- fixes, fairway", "bearing", "clear", "fix", "may", "fairway", "kept",
            "---- outages", "word", "out",
            "---- keepers", "keeper", "limit", "seas", "overdue", "landing", "proves",
            "---- sheets, the whole", "sheet", "put", "copy", "undo", "all",
        };
        Matcher there = Pattern.compile("(?m)^    (?:// (---- .*)|public int (\\w+)\\(.*)$").matcher(text);
        for (String one : want) {
            boolean found = there.find();
            String is = !found ? "nothing" : there.group(1) != null ? there.group(1) : there.group(2);
            Due.hold("the interface says " + is + ", due is " + one, is.equals(one));
        }
    }

    /** Rule 4: of the library the program uses these alone. */
    private static void library(String code) {
        Set<String> known = Set.of("Math.max", "Math.min", "Integer.bitCount", "Long.bitCount", "System.arraycopy");
        Matcher call = Pattern.compile("\\b[A-Z]\\w*\\.\\w+(?=\\()").matcher(code);
        while (call.find()) {
            Due.hold("the program calls " + call.group(), known.contains(call.group()));
        }
        Matcher made = Pattern.compile("\\bnew (\\w+)").matcher(code);
        Set<String> types = new HashSet<>(Set.of("int", "long", "boolean"));
        for (Class<?> type : CoastLights.class.getDeclaredClasses()) {
            types.add(type.getSimpleName());
        }
        while (made.find()) {
            Due.hold("the program makes a " + made.group(1), types.contains(made.group(1)));
        }
        Due.hold("the program has texts", code.indexOf('"') < 0);
    }

    /** Rule 9: each for has a counter that goes by one towards a bound, and a while a bound of its own. */
    private static void loops(String code) {
        Matcher loop = Pattern.compile("\\b(?:for|while|do)\\b[^\n]*").matcher(code);
        Pattern counted = Pattern.compile("for \\(int (\\w+) = [^;]+; [^;]*\\b\\1\\b( \\+ \\w+)?( <| <=| >=) [^;]+; \\1(\\+\\+|--)\\) \\{"
            + "|for \\(int level = 0; level < [^;]+; level\\+\\+\\) \\{|while \\(\\w+ < \\w+ && .*\\{");
        int loops = 0;
        while (loop.find()) {
            Due.hold("the program has the loop " + loop.group(), counted.matcher(loop.group()).matches());
            loops++;
        }
        Due.hold("loops were found", loops > 30);
    }

    /** Rule 11: methods of at most sixty lines; calls at most eight deep. Rule 8: here none calls itself. */
    private static void methods(String code) {
        Matcher start = Pattern.compile("(?m)^( +)(?:public|private|static|final|int|long|boolean|void|Step|Past)[^;=]*?(\\w+)\\([^;=]*\\) \\{$").matcher(code);
        Map<String, String> bodies = new HashMap<>();
        int found = 0;
        while (start.find()) {
            int end = code.indexOf("\n" + start.group(1) + "}", start.end());
            String body = code.substring(start.end(), end);
            Due.hold(start.group().trim() + " is too long", body.split("\n").length <= 60);
            // Two classes may have a method of one name: what either of them calls is taken for both.
            bodies.merge(start.group(2), body, String::concat);
            found++;
        }
        Due.hold("methods were found", found > 90);
        for (String name : bodies.keySet()) {
            Due.hold("calls behind " + name + " go too deep", depthOf(name, bodies, 1) <= 8);
        }
    }

    private static int depthOf(String name, Map<String, String> bodies, int open) {
        int deepest = 1;
        Matcher call = Pattern.compile("\\b(\\w+)\\(").matcher(bodies.get(name));
        while (open <= 9 && call.find()) {
            if (bodies.containsKey(call.group(1))) {
                deepest = Math.max(deepest, 1 + depthOf(call.group(1), bodies, open + 1));
            }
        }
        return deepest;
    }
}
