import java.io.IOException;
import java.lang.reflect.Field;
import java.lang.reflect.Method;
import java.lang.reflect.Modifier;
import java.nio.file.Files;
import java.nio.file.Path;
import java.util.Set;
import java.util.TreeSet;
import java.util.regex.Matcher;
import java.util.regex.Pattern;

/** The face of the class, and those rules of LANGUAGE.md that can be seen from the text alone. */
public final class RulesTest {
    private static final String FACE = "int feed(int,int,int,int,int)|boolean end(int)|int fault(int)|int text(int)|"
        + "int person(int,int)|int bell(int,int)|int fog(int)|boolean set(int,int,int)|boolean risk(int)|"
        + "boolean seed(long)|int go(int)|int undo()|int ahead(int,int,int)|int strike(int,int)|int late(int,int)|"
        + "int bunch(int,int)|int ears(int,int)|int seen(int,int)|int turn(int)|int stare(int)|"
        + "int lovers(int,int,int,int)|int spoil(int,int)|int errand(int,int,int)|int note(int,boolean)|"
        + "int times(int)|int whose(int,int)|int odds(int)|int peak(int,int,int)|int free(int)|int alone(int,int)|"
        + "int hour(int,int)|int veil(int,int)|int image()|int back()|int count(int)";

    private static int wrong;

    public static void main(String[] args) throws IOException {
        face();
        text(Files.readString(Path.of(args.length > 0 ? args[0] : "src/main/java/ShyBell.java")));
        System.out.println(wrong == 0 ? "rules: kept" : "rules: " + wrong + " broken");
        System.exit(wrong == 0 ? 0 : 1);
    }

    private static void is(boolean right, String what) {
        if (!right) {
            wrong++;
            System.out.println(what);
        }
    }

    private static void face() {
        Set<String> names = new TreeSet<>();
        Set<String> found = new TreeSet<>();
        for (Method m : ShyBell.class.getDeclaredMethods()) {
            if (!Modifier.isPrivate(m.getModifiers())) {
                names.add(m.getName());
                StringBuilder types = new StringBuilder();
                for (Class<?> type : m.getParameterTypes()) {
                    types.append(types.length() > 0 ? "," : "").append(type);
                }
                found.add(m.getReturnType() + " " + m.getName() + "(" + types + ")");
            }
        }
        is(found.equals(new TreeSet<>(Set.of(FACE.split("\\|")))), "the face is " + found);
        fields(ShyBell.class);
        for (Class<?> inner : ShyBell.class.getDeclaredClasses()) {
            is(Modifier.isPrivate(inner.getModifiers()) && Modifier.isStatic(inner.getModifiers()), inner + " is shown");
            fields(inner);
            for (Method m : inner.getDeclaredMethods()) {
                is(!names.contains(m.getName()), m + " bears a public name");
                is(m.getParameterCount() <= 7, m + " takes too many");
            }
        }
        is(ShyBell.class.getDeclaredClasses().length <= 11, "too many classes");
        is(ShyBell.class.getConstructors().length == 1, "constructors");
    }

    private static void fields(Class<?> type) {
        int own = 0;
        for (Field f : type.getDeclaredFields()) {
            int m = f.getModifiers();
            is(!Modifier.isStatic(m) || Modifier.isFinal(m), f + " is static and not final");
            boolean isConstant = f.getName().equals("NONE") || f.getName().equals("HIDDEN");
            is(type != ShyBell.class || (isConstant ? Modifier.isPublic(m) : Modifier.isPrivate(m)), f + " is shown");
            own += Modifier.isStatic(m) ? 0 : 1;
        }
        is(own <= 20, type + " has too many fields");
    }

    private static void text(String source) {
        String code = source.replaceAll("(?s)/\\*.*?\\*/", " ").replaceAll("//[^\n]*", " ");
        for (String no : new String[] {"->", "::", "\\bcatch\\b", "\\btry\\b", "\\bfinally\\b", "\\bassert\\b",
            "\\bsynchronized\\b", "\\bpackage\\b", "\\bObject\\b", "\\bThread\\b", "Exact\\b", "\\bSystem\\.(?!arraycopy)",
            "\\bequals\\b", "\\bhashCode\\b", "\\btoString\\b", "\\binstanceof\\b", "\\bdouble\\b", "\\bfloat\\b", "@"}) {
            is(!Pattern.compile(no).matcher(code).find(), "the text has " + no);
        }
        Matcher imports = Pattern.compile("import ([^;]*);").matcher(code);
        while (imports.find()) {
            is(imports.group(1).equals("java.util.NoSuchElementException"), "import of " + imports.group(1));
        }
        Matcher thrown = Pattern.compile("throw ([^;]*);").matcher(code);
        while (thrown.find()) {
            is(thrown.group(1).equals("new NoSuchElementException()"), "throw " + thrown.group(1));
        }
        for (int i = 0; i < source.length(); i++) {
            is(source.charAt(i) < 128, "a sign beyond 127");
        }
        int lines = 0;
        for (String line : source.split("\n")) {
            is(line.length() <= 120, "a long line: " + line);
            lines = line.matches("( {4}| {8})[^ }/*].*\\{") ? 0 : lines + 1;
            is(!line.matches("( {4}| {8})\\}") || lines <= 60, "a long method ends with " + line + " behind " + lines);
        }
    }
}
