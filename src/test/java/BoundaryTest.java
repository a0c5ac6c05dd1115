import java.io.IOException;
import java.lang.reflect.Method;
import java.nio.file.Files;
import java.nio.file.Path;
import java.util.Arrays;
import java.util.Comparator;
import java.util.List;

/** Each sentence of the document that names a boundary case has a test of its own in one of these classes. */
public final class BoundaryTest {
    private static final List<Class<?>> ALL = List.of(RefusalBounds.class, TextBounds.class, FaultBounds.class,
        StreetBounds.class, DayBounds.class, AskBounds.class, SheetBounds.class);

    /** With names of tests only these are run. */
    public static void main(String[] names) throws Exception {
        String document = document();
        int tests = 0;
        for (Class<?> c : ALL) {
            Method[] methods = c.getDeclaredMethods();
            Arrays.sort(methods, Comparator.comparing(Method::getName));
            for (Method m : methods) {
                Says says = m.getAnnotation(Says.class);
                if (says == null || (names.length > 0 && !Arrays.asList(names).contains(m.getName()))) {
                    continue;
                }
                tests++;
                remark(m, says.value(), document);
                run(m, says.value());
            }
        }
        System.out.println("BoundaryTest: " + tests + " sentences");
        Bounds.CHECK.holds("there are tests", tests > 0);
        Bounds.CHECK.finish();
    }

    private static void run(Method m, String words) throws ReflectiveOperationException {
        int ahead = Bounds.CHECK.checked();
        int wrong = Bounds.CHECK.wrong();
        m.setAccessible(true);
        m.invoke(null);
        Bounds.CHECK.holds(m.getName() + " asks something", Bounds.CHECK.checked() > ahead);
        if (Bounds.CHECK.wrong() > wrong) {
            System.out.println("  " + m.getDeclaringClass().getName() + "." + m.getName() + ", for the document says: " + words);
        }
    }

    /** No fault of the class: the words quoted by a test are to be looked at when the document is another one. */
    private static void remark(Method m, String words, String document) {
        if (!document.isEmpty() && !document.contains(words)) {
            System.out.println(m.getName() + ": the document does not say: " + words);
        }
    }

    private static String document() throws IOException {
        Path path = Path.of("../shared/DOC.md");
        return Files.isReadable(path) ? Files.readString(path).replaceAll("\\s+", " ") : "";
    }
}
