import java.lang.reflect.InvocationTargetException;
import java.lang.reflect.Method;
import java.util.Arrays;
import java.util.Comparator;
import java.util.TreeSet;

/**
 * Each sentence of the document that names a boundary has a test of its own, named after its promise
 * (or after the number in the Terms): the methods of the classes named here.
 */
public final class EdgesTest {
    private static final Class<?>[] GROUPS = {
        EdgesOfTerms.class, EdgesOfList.class, EdgesOfSeeing.class, EdgesOfFixes.class, EdgesOfOutages.class,
        EdgesOfKeepers.class, EdgesOfSheets.class,
    };

    public static void main(String[] args) throws IllegalAccessException, InvocationTargetException {
        TreeSet<String> ofWhat = new TreeSet<>();
        int tests = 0;
        for (Class<?> group : GROUPS) {
            Method[] methods = group.getDeclaredMethods();
            Arrays.sort(methods, Comparator.comparing(Method::getName));
            for (Method method : methods) {
                if (method.getName().matches("(promise\\d\\d|terms\\d|whatItIs)[A-Z].*")) {
                    ofWhat.add(method.getName().replaceAll("(?<=\\d|Is)[A-Z].*", ""));
                    tests++;
                    // A class that is wrong throughout may be slow, too: then the first tests say enough.
                    if (Due.wrong() < Due.ENOUGH_WRONG) {
                        run(method);
                    }
                }
            }
        }
        for (int promise = 1; promise <= 35; promise++) {
            String name = String.format("promise%02d", promise);
            Due.hold("no test is named after " + name, ofWhat.contains(name));
        }
        for (int number = 1; number <= 6; number++) {
            Due.hold("no test is named after terms" + number, ofWhat.contains("terms" + number));
        }
        System.out.println(tests + " tests of boundaries");
        Due.end();
    }

    private static void run(Method method) throws IllegalAccessException, InvocationTargetException {
        int before = Due.wrong();
        method.invoke(null);
        if (Due.wrong() > before) {
            System.out.println("^ " + method.getDeclaringClass().getName() + "." + method.getName());
        }
    }
}
