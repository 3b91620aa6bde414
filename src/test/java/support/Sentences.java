import java.lang.reflect.InvocationTargetException;
import java.lang.reflect.Method;
import java.util.Set;
import java.util.TreeMap;
import java.util.TreeSet;
import java.util.regex.Matcher;
import java.util.regex.Pattern;

/**
 * Runs the tests of single sentences: every static method that is named by its promise's number, as
 * p07EndIsNoMoreThanTheTape, so that none that was written is left out.
 */
final class Sentences {
    private static final Pattern NAME = Pattern.compile("p(\\d\\d)[A-Z]\\w*");

    private Sentences() {
    }

    static void run(Class<?> tests, Due due, int... promises) {
        TreeMap<String, Method> found = new TreeMap<>();
        Set<Integer> covered = new TreeSet<>();
        for (Method method : tests.getDeclaredMethods()) {
            Matcher name = NAME.matcher(method.getName());
            if (name.matches()) {
                found.put(method.getName(), method);
                covered.add(Integer.parseInt(name.group(1)));
            }
        }
        for (Method method : found.values()) {
            runOne(method, due);
        }
        due.start(tests.getSimpleName());
        Set<Integer> wanted = new TreeSet<>();
        for (int promise : promises) {
            wanted.add(promise);
        }
        due.isTrue("the promises " + wanted + " are told by tests of " + covered, wanted.equals(covered));
        System.out.println(found.size() + " sentences");
        due.finish();
    }

    private static void runOne(Method method, Due due) {
        due.start(method.getName());
        method.setAccessible(true);
        try {
            method.invoke(null);
        } catch (InvocationTargetException e) {
            due.isTrue("it threw " + e.getCause(), false);
        } catch (IllegalAccessException e) {
            due.isTrue("it can't be called", false);
        }
    }
}
