import java.io.IOException;
import java.lang.reflect.Constructor;
import java.lang.reflect.Field;
import java.lang.reflect.Method;
import java.lang.reflect.Modifier;
import java.nio.charset.StandardCharsets;
import java.nio.file.Files;
import java.nio.file.Path;
import java.util.HashSet;
import java.util.Set;
import java.util.TreeSet;
import java.util.regex.Matcher;
import java.util.regex.Pattern;

/** The public face is the document's and no more, and the source keeps to those rules of LANGUAGE.md that can be seen in it. */
public final class FaceTest {
    private static final String[] FACE = {
        "int feed(int,int,int,int,int)", "boolean end(int)", "int house()", "int records()", "int fault()",
        "int piano(int,int)", "int week(int,int)", "int beats(int,int)", "int wolf(int)",
        "int offset(int,int,int,int)", "int off(int,int,int)", "int due(int,int,int,int)", "int slips(int,int)",
        "int slipped(int)", "long stove(int,int)", "int lean(int,int,int,int)", "int batch(int)",
        "int cracked(int,int)", "int weight(int,int)", "int round(int,int)", "int roundAt(int)", "int home()",
        "int walked(int,int)", "int two(int,int,int)", "int festival(int)", "int unready(int,int)",
        "int whose(int,int,int)", "int fee(int,int)", "int owed(int,int,int)", "int free(int,int,int)",
        "int tunings(int,int,int)", "int past(int,int,int)", "int bag(int)", "long chance()", "int pupils()",
        "int pupilOf(int)", "boolean image(int)", "boolean restore(int)", "int count(int)"};
    private static int wrong = 0;

    public static void main(String[] args) throws IOException {
        Set<String> names = checkMembers();
        checkClasses(names);
        String source = Files.readString(Path.of("src/main/java/TunerRounds.java"), StandardCharsets.UTF_8);
        checkSource(source);
        checkMethods(source);
        System.out.println("FaceTest: " + wrong + " wrong");
        System.exit(wrong == 0 ? 0 : 1);
    }

    private static void must(boolean holds, String what) {
        if (!holds) {
            wrong++;
            System.out.println("FaceTest: " + what);
        }
    }

    private static Set<String> checkMembers() {
        Set<String> want = new TreeSet<>(Set.of(FACE));
        Set<String> got = new TreeSet<>();
        Set<String> names = new HashSet<>();
        for (Method m : TunerRounds.class.getDeclaredMethods()) {
            if (Modifier.isPrivate(m.getModifiers())) {
                continue;
            }
            must(Modifier.isPublic(m.getModifiers()) && !Modifier.isStatic(m.getModifiers()), m + " is visible");
            StringBuilder s = new StringBuilder(m.getReturnType() + " " + m.getName() + "(");
            for (Class<?> c : m.getParameterTypes()) {
                s.append(s.charAt(s.length() - 1) == '(' ? "" : ",").append(c);
            }
            got.add(s.append(")").toString());
            names.add(m.getName());
        }
        must(want.equals(got), "the methods are " + got);
        for (Field f : TunerRounds.class.getDeclaredFields()) {
            must(Modifier.isPrivate(f.getModifiers()) || f.getName().equals("NONE"), f + " is visible");
        }
        for (Constructor<?> c : TunerRounds.class.getDeclaredConstructors()) {
            must(Modifier.isPublic(c.getModifiers()) && c.getParameterCount() == 0, c + " is not the document's");
        }
        return names;
    }

    private static void checkClasses(Set<String> face) {
        Class<?>[] inside = TunerRounds.class.getDeclaredClasses();
        must(inside.length <= 11, "classes inside: " + inside.length);
        for (Method m : TunerRounds.class.getDeclaredMethods()) {
            must(!Modifier.isPrivate(m.getModifiers()) || !face.contains(m.getName()), m + " bears a public name");
        }
        for (Class<?> c : inside) {
            must(Modifier.isStatic(c.getModifiers()) && !Modifier.isPublic(c.getModifiers()), c + " is not static");
            int fields = 0;
            for (Field f : c.getDeclaredFields()) {
                boolean isStatic = Modifier.isStatic(f.getModifiers());
                must(!isStatic || Modifier.isFinal(f.getModifiers()), f + " is static and not final");
                fields += isStatic ? 0 : 1;
            }
            must(fields <= 20, c + " has " + fields + " fields");
            for (Method m : c.getDeclaredMethods()) {
                must(m.getParameterCount() <= 7, m + " has too many parameters");
                must(!face.contains(m.getName()), m + " bears a public name");
            }
        }
    }

    private static void checkSource(String source) {
        String code = source.replaceAll("/\\*(?s:.*?)\\*/", "").replaceAll("//[^\\n]*", "");
        for (String no : new String[] {"->", "::", "finally", "synchronized", "assert ", "instanceof", "System.out",
            "System.in", "Random", "Thread", "hashCode", "toString", "getMessage", "Exact", "static {", "double",
            "catch (Exception", "catch (RuntimeException", "catch (Throwable", "IndexOutOfBounds", "NullPointer",
            "ArithmeticException", "ClassCast", "NegativeArraySize", "ArrayStore"}) {
            must(!code.contains(no), "the source has " + no);
        }
        must(code.chars().allMatch(c -> c == '\n' || c >= 32 && c < 127), "the source has other signs");
        Matcher calls = Pattern.compile("\\b(Math|Integer|Long|Arrays|System|String|List|ArrayList)\\.(\\w+)").matcher(code);
        Set<String> allowed = Set.of("Math.abs", "Math.max", "Math.min", "Integer.bitCount", "Arrays.fill", "System.arraycopy");
        while (calls.find()) {
            must(allowed.contains(calls.group()), "the source calls " + calls.group());
        }
    }

    // Methods stand at four signs in, those of classes inside at eight; each ends at the next brace that far in.
    private static void checkMethods(String source) {
        Matcher methods = Pattern.compile("(?m)^( {4}| {8})(?! )(?!.*\\bclass\\b)([^\\n(]*?)(\\w+)\\([^\\n]*\\)[^\\n;]*\\{\\n((?s:.*?))^\\1\\}$").matcher(source);
        int found = 0;
        while (methods.find()) {
            found++;
            String name = methods.group(3);
            String body = methods.group(4);
            long lines = body.lines().count();
            must(lines <= 60, name + " has " + lines + " lines");
            boolean callsItself = Pattern.compile("(?<![\\w.])" + name + "\\(").matcher(body).find();
            must(!callsItself || methods.group(2).contains("static "), name + " calls itself and is not static");
        }
        must(found > 100, "only " + found + " methods are seen");
    }
}
