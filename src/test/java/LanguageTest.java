import java.io.IOException;
import java.lang.reflect.Constructor;
import java.lang.reflect.Field;
import java.lang.reflect.Method;
import java.lang.reflect.Modifier;
import java.nio.file.Files;
import java.nio.file.Path;
import java.util.ArrayList;
import java.util.Arrays;
import java.util.List;
import java.util.Set;
import java.util.TreeSet;
import java.util.regex.Matcher;
import java.util.regex.Pattern;

/** What of ../shared/LANGUAGE.md can be seen from the class and its text; odd arguments in odd states throw nothing. */
public final class LanguageTest {
    private static final Check CHECK = new Check("LanguageTest");
    private static final String[] FACE = {
        "feed(long)", "end(int)", "street()", "fault()", "rule(int)", "one(int,int)", "moved(int,int)",
        "expected(int,int)", "law(int)", "bear(int,int,int)", "die(int,int)", "move(int,int,int)", "undo(int)",
        "years(int,int)", "lives(int,int)", "number(int,int)", "at(int,int)", "twins(int)", "changes(int,int)",
        "descending(int,int)", "all(int,int)", "letter(int,int,int,int)", "round(int,int)", "want(int,int)",
        "content()", "fetch(int,boolean,int)", "expect(int,int,int)", "can(int,int,int)", "see(int,int,int)",
        "forget(int)", "lie()", "born(int,int)", "later(int,int,int,int)", "keep(int)", "back(int)",
        "sheet(int,int,int)", "lay(int,int,int)", "read(int,int,int,int)", "torn()", "count(int)"};

    public static void main(String[] args) throws Exception {
        face();
        inside();
        text(args.length > 0 ? args[0] : "src/main/java/EldestAge.java");
        oddArguments();
        CHECK.finish();
    }

    private static String told(Method m) {
        StringBuilder b = new StringBuilder(m.getName()).append('(');
        for (Class<?> type : m.getParameterTypes()) {
            b.append(b.charAt(b.length() - 1) == '(' ? "" : ",").append(type.getName());
        }
        return b.append(')').toString();
    }

    private static void face() {
        Class<EldestAge> c = EldestAge.class;
        CHECK.holds("public final", Modifier.isPublic(c.getModifiers()) && Modifier.isFinal(c.getModifiers()));
        Set<String> methods = new TreeSet<>();
        for (Method m : c.getDeclaredMethods()) {
            if (!Modifier.isPrivate(m.getModifiers())) {
                CHECK.holds("public: " + m, Modifier.isPublic(m.getModifiers()) && m.getReturnType() == int.class);
                methods.add(told(m));
            }
        }
        CHECK.holds("methods " + methods, methods.equals(new TreeSet<>(Arrays.asList(FACE))));
        Set<String> fields = new TreeSet<>();
        for (Field f : c.getDeclaredFields()) {
            if (!Modifier.isPrivate(f.getModifiers())) {
                fields.add(f.getName());
            }
        }
        CHECK.holds("fields " + fields, fields.equals(new TreeSet<>(Arrays.asList("BAD", "STATE", "FULL", "NONE"))));
        Constructor<?>[] made = c.getDeclaredConstructors();
        CHECK.holds("one constructor", made.length == 1 && Modifier.isPublic(made[0].getModifiers())
            && made[0].getParameterCount() == 0);
    }

    private static void inside() {
        Set<String> publicNames = new TreeSet<>();
        for (String m : FACE) {
            publicNames.add(m.substring(0, m.indexOf('(')));
        }
        List<Class<?>> classes = new ArrayList<>(Arrays.asList(EldestAge.class.getDeclaredClasses()));
        classes.add(EldestAge.class);
        CHECK.holds("some twelve classes", classes.size() <= 12);
        for (Class<?> c : classes) {
            CHECK.holds("static: " + c, c == EldestAge.class || Modifier.isStatic(c.getModifiers()));
            int fields = 0;
            for (Field f : c.getDeclaredFields()) {
                boolean fixed = Modifier.isStatic(f.getModifiers());
                fields += fixed ? 0 : 1;
                CHECK.holds("a static field is final: " + f, !fixed || Modifier.isFinal(f.getModifiers()));
            }
            CHECK.holds("some twenty fields: " + c + " " + fields, fields <= 20);
            for (Method m : c.getDeclaredMethods()) {
                CHECK.holds("at most seven parameters: " + m, m.getParameterCount() <= 7);
                CHECK.holds("a name of its own: " + m, Modifier.isPublic(m.getModifiers()) || !publicNames.contains(m.getName()));
            }
        }
    }

    private static void text(String file) throws IOException {
        String source = Files.readString(Path.of(file));
        for (char sign : source.toCharArray()) {
            CHECK.holds("a sign of 1 to 127", sign > 0 && sign < 128);
        }
        String code = source.replaceAll("(?s)/\\*.*?\\*/", " ").replaceAll("//[^\n]*", " ").replaceAll("\"[^\"\n]*\"", "\"\"");
        String[] never = {"throw", "throws", "try", "catch", "synchronized", "assert", "package", "hashCode", "Thread", "Random"};
        for (String word : never) {
            CHECK.holds("no " + word, !Pattern.compile("\\b" + Pattern.quote(word) + "\\b").matcher(code).find());
        }
        CHECK.holds("no lambda", !code.contains("->") && !code.contains("::"));
        library(code);
        methodsAreShort(code);
    }

    /** What rule 4 lists of static functions, and what it takes to name its classes. */
    private static void library(String code) {
        Matcher imports = Pattern.compile("\\bimport\\s+([\\w.*]+)").matcher(code);
        while (imports.find()) {
            CHECK.holds("import " + imports.group(1), imports.group(1).matches("java\\.util\\.(ArrayList|List|Iterator|Arrays)"));
        }
        Matcher library = Pattern.compile("\\b(System|Arrays)\\.(\\w+)|\\b(Math|Integer|Long)\\.(\\w+Exact)\\b").matcher(code);
        while (library.find()) {
            CHECK.holds("library " + library.group(), library.group().matches("System\\.arraycopy|Arrays\\.(copyOf|copyOfRange|fill)"));
        }
    }

    private static void methodsAreShort(String code) {
        String[] lines = code.split("\n");
        int begins = -1;
        for (int i = 0; i < lines.length; i++) {
            if (lines[i].matches("(    |        )[^ ].*\\) \\{")) {
                begins = i;
            }
            if (begins >= 0 && lines[i].matches("(    |        )\\}")) {
                CHECK.holds("a short method at line " + (begins + 1), i - begins <= 60);
                begins = -1;
            }
        }
    }

    private static EldestAge full() {
        EldestAge x = Check.told("houses 8;law mean;one plain 0 0 0;one aunt 1 1 1;one vain 2 2 2;one double 3 3 3;"
            + "one lodger 4 4 4;one aunt 99 359 5 ;one plain 0 0 0 died 99 359;expect 7 0 0 99 359;move 0 0 0 7;");
        x.see(0, 0, 0);
        x.want(7, 7);
        x.keep(0);
        x.sheet(0, 0, 0);
        x.sheet(1, 1, 40);
        x.sheet(2, 2, 1);
        return x;
    }

    /** Every method with each mix of odd arguments, on an empty street and on one that has something of all. */
    private static void oddArguments() throws ReflectiveOperationException {
        int[] odd = {Integer.MIN_VALUE, Integer.MIN_VALUE + 10, -36000, -4, -1, 0, 1, 3, 7, 8, 12, 40, 41, 999, 1000,
            35999, 36000, 65536, Integer.MAX_VALUE - 1, Integer.MAX_VALUE};
        for (Method m : EldestAge.class.getDeclaredMethods()) {
            if (!Modifier.isPublic(m.getModifiers())) {
                continue;
            }
            Class<?>[] types = m.getParameterTypes();
            int mixes = 1;
            for (int i = 0; i < types.length; i++) {
                mixes *= odd.length;
            }
            EldestAge empty = null;
            EldestAge full = null;
            for (int mix = 0; mix < mixes; mix++) {
                // Of an object's calls the first 512 alone are promised.
                if (mix % 400 == 0) {
                    empty = new EldestAge();
                    full = full();
                }
                Object[] values = new Object[types.length];
                int rest = mix;
                for (int i = 0; i < types.length; i++) {
                    int v = odd[rest % odd.length];
                    rest /= odd.length;
                    values[i] = types[i] == long.class ? (Object) (long) v : types[i] == boolean.class ? (Object) (v > 0) : (Object) v;
                }
                int one = (int) m.invoke(empty, values);
                int other = (int) m.invoke(full, values);
                CHECK.holds("an answer of " + m + " " + one + " " + other, one >= -410 && other >= -410);
            }
        }
    }
}
