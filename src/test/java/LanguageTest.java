import java.io.IOException;
import java.lang.reflect.Constructor;
import java.lang.reflect.Field;
import java.lang.reflect.Method;
import java.lang.reflect.Modifier;
import java.nio.charset.StandardCharsets;
import java.nio.file.Files;
import java.nio.file.Path;
import java.util.ArrayList;
import java.util.List;
import java.util.Set;
import java.util.TreeSet;
import java.util.regex.Matcher;
import java.util.regex.Pattern;

/** What of LANGUAGE.md can be seen in the text of the class and by its members. */
public final class LanguageTest {
    private static final Check CHECK = new Check();
    private static final String[] FACE = {
        "int feed(int)", "int slope()", "int gate(int,int,int)", "int of(int,int)", "int turn(int,int)",
        "int plan(int,int)", "int row(int,int,int)", "int skier(int)", "int skill(int,int)", "int told(int)",
        "int run(int)", "int would(int,int)", "int quickest(int,int)", "int clean(int,int)", "long up(int,int)",
        "long surest(int,int,int)", "int sure(int,int,int)", "int carry(int,int)", "int start(int,int)",
        "int rutted(int)", "int wax(int)", "int loses(int,int,int)", "long wins(int,int,int,int)",
        "long risk(int,int,int,int)", "int set(int,int)", "int rank(int)", "long mean(int)", "int slowest(int)",
        "int see(int,int)", "int fits(int,int)", "int who()", "int book(int,int)", "int looked()",
        "int act(int,int,int)", "int trace(int)", "int as(int,int)", "int image()", "int undo()", "int count(int)"};
    private static final Set<String> CONSTANTS = Set.of("NONE", "BAD", "STATE", "FULL", "NO");

    private LanguageTest() {
    }

    public static void main(String[] args) throws IOException {
        String text = Files.readString(Path.of("src/main/java/FortyGates.java"), StandardCharsets.ISO_8859_1);
        face();
        members();
        words(text);
        library(plain(text));
        loops(plain(text));
        lengths(text);
        CHECK.end();
    }

    private static void face() {
        Set<String> open = new TreeSet<>();
        Set<String> names = new TreeSet<>();
        for (Method method : FortyGates.class.getDeclaredMethods()) {
            if (Modifier.isPublic(method.getModifiers())) {
                open.add(signature(method));
                names.add(method.getName());
                CHECK.so("1: static " + method, !Modifier.isStatic(method.getModifiers()));
            }
        }
        CHECK.so("1: the face is " + open, open.equals(new TreeSet<>(List.of(FACE))));
        for (Class<?> type : types()) {
            for (Method method : type.getDeclaredMethods()) {
                CHECK.so("1: a name of the face: " + method,
                        Modifier.isPublic(method.getModifiers()) || !names.contains(method.getName()));
                CHECK.so("11: parameters of " + method, method.getParameterCount() <= 7);
            }
        }
        int modifiers = FortyGates.class.getModifiers();
        CHECK.so("1: public and final", Modifier.isPublic(modifiers) && Modifier.isFinal(modifiers));
    }

    private static String signature(Method method) {
        StringBuilder text = new StringBuilder(method.getReturnType().getName() + " " + method.getName() + "(");
        for (Class<?> type : method.getParameterTypes()) {
            text.append(text.charAt(text.length() - 1) == '(' ? "" : ",").append(type.getName());
        }
        return text.append(")").toString();
    }

    private static List<Class<?>> types() {
        List<Class<?>> types = new ArrayList<>(List.of(FortyGates.class));
        types.addAll(List.of(FortyGates.class.getDeclaredClasses()));
        return types;
    }

    private static void members() {
        for (Method method : FortyGates.class.getDeclaredMethods()) {
            CHECK.so("1: " + method, Modifier.isPublic(method.getModifiers()) || Modifier.isPrivate(method.getModifiers()));
        }
        for (Constructor<?> constructor : FortyGates.class.getDeclaredConstructors()) {
            CHECK.so("1: " + constructor, constructor.getParameterCount() == 0);
        }
        for (Field field : FortyGates.class.getDeclaredFields()) {
            CHECK.so("1: " + field, CONSTANTS.contains(field.getName()) == Modifier.isPublic(field.getModifiers()));
            CHECK.so("1: " + field, Modifier.isPublic(field.getModifiers()) || Modifier.isPrivate(field.getModifiers()));
        }
        CHECK.so("11: classes", types().size() <= 12);
        for (Class<?> type : types()) {
            int own = 0;
            for (Field field : type.getDeclaredFields()) {
                boolean fixed = Modifier.isStatic(field.getModifiers());
                own += fixed ? 0 : 1;
                CHECK.so("5: " + field, !fixed || Modifier.isFinal(field.getModifiers()));
            }
            CHECK.so("11: fields of " + type, own <= 20);
            CHECK.so("2: " + type, type == FortyGates.class
                    || Modifier.isStatic(type.getModifiers()) && !Modifier.isPublic(type.getModifiers()));
        }
    }

    private static void words(String text) {
        for (int i = 0; i < text.length(); i++) {
            if (text.charAt(i) < 1 || text.charAt(i) > 127) {
                CHECK.so("4: a sign at " + i, false);
            }
        }
        String code = plain(text);
        String[] never = {"throw", "throws", "try", "catch", "synchronized", "assert", "import", "package", "Object",
            "equals", "hashCode", "toString", "Random", "System\\.(?!arraycopy)\\w+", "Thread", "var", "yield", "native",
            "goto", "\\w+Exact", "\\w*Exception", "instanceof", "static\\s*\\{", "null", "double", "float"};
        for (String word : never) {
            Matcher found = Pattern.compile("(?<!\\w)" + word + "(?!\\w)").matcher(code);
            CHECK.so("6: " + word, !found.find());
        }
        for (String sign : new String[] {"->", "::", "@"}) {
            CHECK.so("2: " + sign, !code.contains(sign));
        }
        Matcher loops = Pattern.compile("\\bwhile\\b").matcher(code);
        CHECK.so("9: a loop without a counter", !loops.find());
        // in the class all is made by fields and constructors, so that no call makes an object
        Matcher made = Pattern.compile("\\bnew\\b").matcher(code);
        while (made.find()) {
            String line = code.substring(code.lastIndexOf('\n', made.start()) + 1, code.indexOf('\n', made.start()));
            CHECK.so("12: made in a call: " + line, line.contains("final") || line.contains("private") || line.contains("[room]"));
        }
    }

    /** The code without comments and texts. */
    private static String plain(String text) {
        return text.replaceAll("(?s)/\\*.*?\\*/", "").replaceAll("//[^\n]*", "")
                .replaceAll("\"(\\\\.|[^\"\\\\])*\"", "\"\"").replaceAll("'(\\\\.|[^'\\\\])'", "''");
    }

    /** Of the library only two functions of Math, one of System and what Strings have is called. */
    private static void library(String code) {
        Set<String> allowed = Set.of("Math.min", "Math.max", "System.arraycopy", "Long.MIN_VALUE");
        Set<String> own = new TreeSet<>();
        for (Class<?> type : types()) {
            own.add(type.getSimpleName());
        }
        Matcher names = Pattern.compile("(?<![\\w.])([A-Z][a-z]\\w*)(\\.\\w+)?").matcher(code);
        while (names.find()) {
            CHECK.so("4: " + names.group(), own.contains(names.group(1)) || allowed.contains(names.group())
                    || names.group().equals("String"));
        }
        CHECK.so("3: arrays of one dimension", !code.contains("[]["));
    }

    /** Each loop counts one number up or down against a bound that stands in its head. */
    private static void loops(String code) {
        Matcher heads = Pattern.compile("for \\(([^{]*)\\) \\{").matcher(code);
        Pattern fine = Pattern.compile("int (\\w+) = [^;]+; (\\1 < [^;]+; \\1\\+\\+|\\1 >= 0; \\1--)");
        int loops = 0;
        while (heads.find()) {
            loops++;
            CHECK.so("9: a loop by " + heads.group(1), fine.matcher(heads.group(1).replaceAll("<=", "<")).matches());
        }
        int all = code.split("\\bfor \\(", -1).length - 1;
        CHECK.due("9: all loops", loops, all);
    }

    private static void lengths(String text) {
        Matcher head = Pattern.compile("(?m)^( {4}| {8})(?!if|for|switch)[A-Za-z][^;={}]*\\) \\{\n").matcher(text);
        int methods = 0;
        while (head.find()) {
            int end = text.indexOf("\n" + head.group(1) + "}\n", head.end());
            CHECK.so("11: a method ends: " + head.group(), end >= 0);
            if (end >= 0) {
                methods++;
                long lines = text.substring(head.start(), end).chars().filter(c -> c == '\n').count() + 1;
                CHECK.so("11: lines of " + head.group().trim(), lines <= 60);
                Matcher name = Pattern.compile("(\\w+)\\(").matcher(head.group());
                String body = plain(text.substring(head.end(), end));
                CHECK.so("8: calls itself: " + head.group().trim(),
                        name.find() && !Pattern.compile("(?<![\\w.])" + name.group(1) + "\\(").matcher(body).find());
            }
        }
        CHECK.so("11: methods found: " + methods, methods > 80);
    }
}
