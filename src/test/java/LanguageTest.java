import java.lang.reflect.Constructor;
import java.lang.reflect.Field;
import java.lang.reflect.Method;
import java.lang.reflect.Modifier;
import java.nio.file.Files;
import java.nio.file.Path;
import java.util.HashSet;
import java.util.List;
import java.util.Set;
import java.util.TreeSet;
import java.util.regex.Matcher;
import java.util.regex.Pattern;

/** What can be seen of LANGUAGE.md's rules from the source and the class file; run from the project's root. */
public final class LanguageTest {
    private static final String FACE = "int feed(int,int,int,int,int) int end(int) int text() int fault(int) "
            + "boolean by(int) int played(int) int word(int,int,int) int turn(int) "
            + "int sense(int,int,int,int,int,int) boolean made(int,int,int) boolean key(int) int write(int) "
            + "int week(int) int undo() int told(int,int) int stiff(int) int least(int,int) int sentence(int,int) "
            + "int states(int,int,int) int none() int worst() int few(boolean) int spare() int now(int) int exact(int) "
            + "int longer() int law() int stiffs(int,int) long notices(int,boolean) int lines(int) int held() "
            + "int page(int) int wrote(int) int fewest() int letters(int) int lot(int) int wire(int) int worth(int) "
            + "int line(int,boolean) int all() int senses() int report() int clear() int meant(int) int fits() "
            + "int is(int) int use(int) int book(int,int) int image() int restore() int status(int) int about(int)";
    private static int wrong = 0;

    private static void must(boolean holds, String what) {
        if (!holds) {
            wrong++;
            System.out.println("not so: " + what);
        }
    }

    public static void main(String[] args) throws Exception {
        String source = Files.readString(Path.of("src/main/java/WithoutE.java"));
        face();
        words(source.replaceAll("(?s)/\\*.*?\\*/", "").replaceAll("//[^\n]*", ""));
        sizes(source);
        System.out.println(wrong == 0 ? "the rules that can be seen hold" : wrong + " rules are broken");
        if (wrong != 0) {
            System.exit(1);
        }
    }

    private static String header(Method m) {
        StringBuilder b = new StringBuilder(m.getReturnType().getSimpleName() + " " + m.getName() + "(");
        for (int i = 0; i < m.getParameterCount(); i++) {
            b.append(i > 0 ? "," : "").append(m.getParameterTypes()[i].getSimpleName());
        }
        return b.append(")").toString();
    }

    private static void face() {
        Class<?> type = WithoutE.class;
        must(Modifier.isPublic(type.getModifiers()) && Modifier.isFinal(type.getModifiers()), "public and final");
        Set<String> faces = new TreeSet<>(List.of(FACE.split("(?<=\\)) ")));
        Set<String> names = new HashSet<>();
        Set<String> seen = new TreeSet<>();
        for (Method m : type.getDeclaredMethods()) {
            if (Modifier.isPublic(m.getModifiers())) {
                seen.add(header(m));
                names.add(m.getName());
            } else {
                must(Modifier.isPrivate(m.getModifiers()), m + " is private");
            }
        }
        must(seen.equals(faces), "the face is the document's: " + seen);
        Constructor<?>[] made = type.getDeclaredConstructors();
        must(made.length == 1 && made[0].getParameterCount() == 0 && Modifier.isPublic(made[0].getModifiers()), "one constructor");
        for (Field f : type.getDeclaredFields()) {
            must(f.getName().equals("NONE") ? Modifier.isPublic(f.getModifiers()) : Modifier.isPrivate(f.getModifiers()), f + "");
            must(!Modifier.isStatic(f.getModifiers()) || Modifier.isFinal(f.getModifiers()), f + " is final");
        }
        must(type.getDeclaredClasses().length <= 12, "twelve classes");
        for (Class<?> inner : type.getDeclaredClasses()) {
            must(Modifier.isStatic(inner.getModifiers()) && !Modifier.isPublic(inner.getModifiers()), inner + " is static");
            int fields = 0;
            for (Field f : inner.getDeclaredFields()) {
                fields += Modifier.isStatic(f.getModifiers()) ? 0 : 1;
            }
            must(fields <= 20, inner + " has twenty fields at most");
        }
        privateNames(type, names);
    }

    private static void privateNames(Class<?> type, Set<String> names) {
        for (Method m : type.getDeclaredMethods()) {
            must(Modifier.isPublic(m.getModifiers()) || !names.contains(m.getName()), m + " has a name of its own");
            must(m.getParameterCount() <= 7, m + " has seven parameters at most");
        }
        for (Class<?> inner : type.getDeclaredClasses()) {
            privateNames(inner, names);
        }
    }

    private static void words(String code) {
        for (String word : List.of("throw", "try", "catch", "synchronized", "assert", "throws", "package", "hashCode", "toString",
                "Exception", "native", "volatile", "transient", "double", "float", "Object", "var")) {
            must(!Pattern.compile("\\b" + word + "\\b").matcher(code).find(), "no " + word);
        }
        for (String sign : List.of("->", "::", "@", "NaN", "static {", "Exact")) {
            must(!code.contains(sign), "no " + sign);
        }
        Matcher imports = Pattern.compile("\\bimport ([^;]*);").matcher(code);
        while (imports.find()) {
            must(imports.group(1).equals("java.util.Arrays"), "no import of " + imports.group(1));
        }
        Matcher texts = Pattern.compile("\"[^\"]*\"\\s*\\+|\\+\\s*\"").matcher(code);
        must(!texts.find(), "no texts are joined by +");
        Matcher library = Pattern.compile("\\b(Arrays|Math|Integer|System|Long)\\.(\\w+)").matcher(code);
        Set<String> known = Set.of("Arrays.fill", "Math.min", "Math.max", "Integer.bitCount", "System.arraycopy");
        while (library.find()) {
            must(known.contains(library.group(1) + "." + library.group(2)), "no " + library.group());
        }
        for (String line : code.split("\n")) {
            boolean made = line.contains("new ");
            must(!made || line.contains("final ") || line.contains("texts[i] = new Text()")
                    || line.matches("        (sound|laws|speech) = new .*"), "nothing is made by a call: " + line.trim());
        }
    }

    private static void sizes(String source) {
        String[] lines = source.split("\n");
        int start = -1;
        String indent = "";
        for (int i = 0; i < lines.length; i++) {
            Matcher m = Pattern.compile("^( {4}| {8})(private |public |static |final )*[\\w\\[\\]]+ \\w+\\([^;]*\\{$").matcher(lines[i]);
            if (m.find()) {
                start = i;
                indent = m.group(1);
            } else if (start >= 0 && lines[i].equals(indent + "}")) {
                must(i - start < 60, "sixty lines at most: " + lines[start].trim());
                start = -1;
            }
            must(lines[i].length() <= 120, "120 signs a line: " + (i + 1));
        }
    }
}
