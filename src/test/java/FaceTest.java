import java.io.IOException;
import java.lang.reflect.Constructor;
import java.lang.reflect.Field;
import java.lang.reflect.Method;
import java.lang.reflect.Modifier;
import java.nio.file.Files;
import java.nio.file.Path;
import java.util.Arrays;
import java.util.HashMap;
import java.util.HashSet;
import java.util.Map;
import java.util.Set;
import java.util.TreeSet;
import java.util.regex.Matcher;
import java.util.regex.Pattern;

/** The public face of the document, and the rules of LANGUAGE.md that can be seen from outside. */
public final class FaceTest {
    private static final String[] FACE = {
        "feed(int, long)", "light(int, int, int)", "as(int, int)", "lightIs(int, int)", "at(int, int)",
        "sector(int, int, int, int)", "doubt(int, int)", "direction(int, int)", "colour(int, int)", "seen(int)",
        "haze(int)", "day(int)", "apart(int, int)", "allApart(int)", "fits(int)", "bearing(int, int, int)", "clear()",
        "fix(boolean)", "may(int)", "fairway(int, boolean)", "kept()", "word(int, int, int, boolean)",
        "out(int, int, int)", "keeper(int, int)", "limit(int, int)", "seas(int)", "overdue()", "landing(int)",
        "proves(int)", "sheet(int, int, int)", "put(int, int, int)", "copy(int, int, int, int, int)", "undo()", "all(int)",
    };

    public static void main(String[] args) throws IOException {
        face();
        members();
        inside();
        source();
        Due.end();
    }

    private static String signature(Method method) {
        StringBuilder text = new StringBuilder(method.getName()).append('(');
        for (Class<?> type : method.getParameterTypes()) {
            text.append(text.charAt(text.length() - 1) == '(' ? "" : ", ").append(type.getName());
        }
        return text.append(')').toString();
    }

    private static void face() {
        Class<?> type = CoastLights.class;
        Due.hold("the class is public and final", Modifier.isPublic(type.getModifiers()) && Modifier.isFinal(type.getModifiers()));
        Constructor<?>[] made = type.getDeclaredConstructors();
        Due.hold("one public constructor", made.length == 1 && Modifier.isPublic(made[0].getModifiers())
            && made[0].getParameterCount() == 0);
        Set<String> there = new TreeSet<>();
        for (Method method : type.getDeclaredMethods()) {
            if (Modifier.isPublic(method.getModifiers())) {
                there.add(signature(method));
                Due.hold(method + " answers an int", method.getReturnType() == int.class);
                Due.hold(method + " is no static one", !Modifier.isStatic(method.getModifiers()));
            }
        }
        Set<String> want = new TreeSet<>(Arrays.asList(FACE));
        Due.hold("the face is " + there + ", due is " + want, there.equals(want));
        Due.due("methods of the face", there.size(), 34);
    }

    private static void members() {
        Set<String> face = new HashSet<>();
        for (String one : FACE) {
            face.add(one.substring(0, one.indexOf('(')));
        }
        for (Method method : CoastLights.class.getDeclaredMethods()) {
            if (Modifier.isPublic(method.getModifiers())) {
                continue;
            }
            Due.hold(method + " must be private", Modifier.isPrivate(method.getModifiers()));
            Due.hold(method + " bears a name of the face", !face.contains(method.getName()));
            Due.hold(method + " has over seven parameters", method.getParameterCount() <= 7);
        }
        for (Field field : CoastLights.class.getDeclaredFields()) {
            Due.hold(field + " must be private", Modifier.isPrivate(field.getModifiers()));
            Due.hold(field + " is static, but not final",
                !Modifier.isStatic(field.getModifiers()) || Modifier.isFinal(field.getModifiers()));
        }
        for (Class<?> type : CoastLights.class.getDeclaredClasses()) {
            for (Method method : type.getDeclaredMethods()) {
                Due.hold(method + " bears a name of the face", !face.contains(method.getName()));
                Due.hold(method + " has over seven parameters", method.getParameterCount() <= 7);
            }
        }
    }

    private static int fieldsOf(Class<?> type) {
        int count = 0;
        for (Field field : type.getDeclaredFields()) {
            count += Modifier.isStatic(field.getModifiers()) ? 0 : 1;
        }
        return count;
    }

    private static void inside() {
        Due.hold("some twenty fields", fieldsOf(CoastLights.class) <= 20);
        Class<?>[] types = CoastLights.class.getDeclaredClasses();
        Due.hold("some twelve classes", types.length < 12);
        for (Class<?> type : types) {
            Due.hold(type + " must be static", Modifier.isStatic(type.getModifiers()));
            Due.hold(type + " must not be public", !Modifier.isPublic(type.getModifiers()));
            Due.hold(type + " has over twenty fields", fieldsOf(type) <= 20);
        }
    }

    private static void source() throws IOException {
        String text = Files.readString(Path.of("src/main/java/CoastLights.java"));
        String code = text.replaceAll("(?s)/\\*.*?\\*/", "").replaceAll("//[^\n]*", "");
        for (String word : new String[] {"\\b(throws?|try|catch|finally|synchronized|assert|import|package|protected)\\b",
            "static \\{", "->", "::", "Exact\\b", "System\\.(?!arraycopy)", "\\b(double|float|Random|Thread)\\b"}) {
            Due.hold("the program has '" + word + "'", !Pattern.compile(word).matcher(code).find());
        }
        for (int i = 0; i < text.length(); i++) {
            char sign = text.charAt(i);
            if (sign != '\n' && (sign < ' ' || sign > '~')) {
                Due.hold("sign " + (int) sign + " in the program", false);
            }
        }
        methodsAreShort(code);
    }

    private static void methodsAreShort(String code) {
        Matcher start = Pattern.compile("(?m)^( +)(?:public|private|static|final|int|long|boolean|void|Step|Past)[^;=]*\\) \\{$").matcher(code);
        Map<String, Integer> lengths = new HashMap<>();
        while (start.find()) {
            int end = code.indexOf("\n" + start.group(1) + "}", start.end());
            lengths.put(start.group().trim(), code.substring(start.start(), end).split("\n").length);
        }
        Due.hold("methods were found", lengths.size() > 90);
        for (Map.Entry<String, Integer> one : lengths.entrySet()) {
            Due.hold(one.getKey() + " has " + one.getValue() + " lines", one.getValue() <= 60);
        }
    }
}
