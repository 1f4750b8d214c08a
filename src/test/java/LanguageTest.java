import java.lang.reflect.Constructor;
import java.lang.reflect.Field;
import java.lang.reflect.Method;
import java.lang.reflect.Modifier;
import java.nio.file.Files;
import java.nio.file.Path;
import java.util.ArrayList;
import java.util.Arrays;
import java.util.List;
import java.util.Set;
import java.util.TreeSet;
import java.util.regex.Matcher;
import java.util.regex.Pattern;

/** Rules of LANGUAGE.md that can be seen in the source or in the compiled class. */
final class LanguageTest {
    private static final String FACE = "firm():shop(int):days(int):begin(int,int,int,int,int,int):isOf(int,int):spend(int,int,int,int):load(int,int,int):"
        + "split(int,int,int,int):back(int,int,int,int):lose(int,int,int):withdraw(int):line(int,int):stands(int,int,int,int):idle(int,int):"
        + "owes(int,int,int,int):gain(int,int,int):fall(int,int):feed(int,int,int):trim(int):law(int):item(int,int):items(int,int):empty():"
        + "promotion(int,int,int):join(int,int,int):mix(int):mixed(int,int):costs(int):tell(int):check():exchange(int,int,int,int):hole(int,int):"
        + "guess(int,int):barred(int):tries(int):sheet(int,int):mark(int,int,int):copy(int,int,int,int,int):count(int)";

    private LanguageTest() {
    }

    public static void main(String[] args) throws Exception {
        String source = Files.readString(Path.of("src/main/java/VoucherHall.java"));
        words(source);
        face();
        constants();
        classes();
        methods(source);
        Due.end("LanguageTest");
    }

    private static String bare(String source) {
        return source.replaceAll("(?s)/\\*.*?\\*/", " ").replaceAll("//[^\n]*", " ").replaceAll("\"[^\"\n]*\"", "\"\"").replaceAll("'[^']'", "' '");
    }

    private static void words(String source) {
        String code = bare(source);
        String[] none = {"\\bthrow\\b", "\\bthrows\\b", "\\btry\\b", "\\bcatch\\b", "\\bsynchronized\\b", "\\bassert\\b", "->", "::", "\\bpackage\\b",
            "\\bstatic\\s*\\{", "\\bprotected\\b", "\\bThread\\b", "\\bRandom\\b", "\\bcurrentTimeMillis\\b", "\\bnanoTime\\b", "Exact\\b", "\\bdouble\\b",
            "\\bfloat\\b", "\\bhashCode\\b", "\\btoString\\b", "\\bvolatile\\b", "\\bnative\\b", "\"\"\\s*\\+", "\\+\\s*\"\""};
        for (String word : none) {
            Due.holds("no " + word, !Pattern.compile(word).matcher(code).find());
        }
        Matcher imports = Pattern.compile("import ([^;]*);").matcher(code);
        while (imports.find()) {
            Due.holds("import " + imports.group(1), imports.group(1).equals("java.util.Arrays"));
        }
        Matcher library = Pattern.compile("\\b(System|Math|Arrays|Integer|Long|Character|Objects|Collections)\\.(\\w+)").matcher(code);
        Set<String> known = Set.of("System.arraycopy", "Math.max", "Math.min", "Arrays.fill");
        while (library.find()) {
            Due.holds("library " + library.group(), known.contains(library.group()));
        }
        for (int i = 0; i < source.length(); i++) {
            char c = source.charAt(i);
            if (c != '\n' && (c < 32 || c > 126)) {
                Due.holds("sign " + (int) c + " at " + i, false);
            }
        }
    }

    private static void face() {
        Set<String> due = new TreeSet<>(Arrays.asList(FACE.split(":")));
        Set<String> seen = new TreeSet<>();
        Set<String> names = new TreeSet<>();
        for (Method m : VoucherHall.class.getDeclaredMethods()) {
            if (Modifier.isPublic(m.getModifiers())) {
                StringBuilder all = new StringBuilder();
                for (Class<?> c : m.getParameterTypes()) {
                    all.append(all.isEmpty() ? "" : ",").append(c.getName());
                }
                seen.add(m.getName() + "(" + all + ")");
                names.add(m.getName());
                Due.holds(m.getName() + " answers an int", m.getReturnType() == int.class && !Modifier.isStatic(m.getModifiers()));
            } else {
                Due.holds(m.getName() + " is private", Modifier.isPrivate(m.getModifiers()));
            }
        }
        Due.holds("the face " + seen, seen.equals(due));
        for (Class<?> c : allClasses()) {
            for (Method m : c.getDeclaredMethods()) {
                Due.holds(c.getName() + "." + m.getName() + " bears no name of the face",
                    Modifier.isPublic(m.getModifiers()) || !names.contains(m.getName()));
            }
        }
        Constructor<?>[] made = VoucherHall.class.getDeclaredConstructors();
        Due.holds("one constructor", made.length == 1 && made[0].getParameterCount() == 0 && Modifier.isPublic(made[0].getModifiers()));
        Due.holds("final", Modifier.isFinal(VoucherHall.class.getModifiers()) && Modifier.isPublic(VoucherHall.class.getModifiers()));
    }

    private static void constants() throws Exception {
        Object[][] due = {{"BAD", -1000000001}, {"NO", -1000000002}, {"FULL", -1000000003}, {"SPENT", -1000000004}, {"NONE", -1000000005},
            {"NOTHING", -1000000011}, {"INDEX", -1000000013}, {"SIZE", -1000000014}};
        Set<String> names = new TreeSet<>();
        for (Object[] d : due) {
            names.add((String) d[0]);
            Due.due((String) d[0], VoucherHall.class.getField((String) d[0]).getInt(null), (Integer) d[1]);
        }
        for (Field f : VoucherHall.class.getDeclaredFields()) {
            boolean open = names.contains(f.getName()) && Modifier.isPublic(f.getModifiers());
            Due.holds("field " + f.getName(), open || Modifier.isPrivate(f.getModifiers()));
        }
    }

    private static List<Class<?>> allClasses() {
        List<Class<?>> all = new ArrayList<>(List.of(VoucherHall.class.getDeclaredClasses()));
        all.add(VoucherHall.class);
        return all;
    }

    private static void classes() {
        Due.holds("at most twelve classes", allClasses().size() <= 12);
        for (Class<?> c : allClasses()) {
            int fields = 0;
            for (Field f : c.getDeclaredFields()) {
                boolean isStatic = Modifier.isStatic(f.getModifiers());
                fields += isStatic ? 0 : 1;
                Due.holds(c.getName() + "." + f.getName() + " is final, if static", !isStatic || Modifier.isFinal(f.getModifiers()));
            }
            Due.holds(c.getName() + " has at most twenty fields", fields <= 20);
            Due.holds(c.getName() + " is static", c == VoucherHall.class || Modifier.isStatic(c.getModifiers()) && !Modifier.isPublic(c.getModifiers()));
            Due.due(c.getName() + " has classes inside", c == VoucherHall.class ? 0 : c.getDeclaredClasses().length, 0);
            for (Method m : c.getDeclaredMethods()) {
                Due.holds(m.getName() + " takes at most seven", m.getParameterCount() <= 7);
            }
        }
    }

    private static void methods(String source) {
        String[] rows = source.split("\n");
        int start = -1;
        String indent = "";
        for (int i = 0; i < rows.length; i++) {
            Matcher head = Pattern.compile("^( {4}| {8})[\\w\\[\\]]+ .*\\) \\{$|^( {4}| {8})[\\w\\[\\]]+\\(.*\\) \\{$").matcher(rows[i]);
            if (start < 0 && head.find() && !rows[i].contains(" class ")) {
                start = i;
                indent = rows[i].replaceAll("\\S.*", "");
            } else if (start >= 0 && rows[i].equals(indent + "}")) {
                Due.holds("'" + rows[start].trim() + "' is short", i - start < 60);
                start = -1;
            }
        }
    }
}
