import java.lang.reflect.Constructor;
import java.lang.reflect.Field;
import java.lang.reflect.Method;
import java.lang.reflect.Modifier;
import java.nio.file.Files;
import java.nio.file.Path;
import java.util.Arrays;
import java.util.Map;
import java.util.TreeMap;
import java.util.TreeSet;
import java.util.regex.Matcher;
import java.util.regex.Pattern;

/** The face of the document, and what of LANGUAGE.md can be told from names and words alone. */
public final class LanguageTest {
    private static final String[] FACE = {
        "int node(int, int)", "int parent(int, int)", "int sight(int, int)", "int blind(int, int)",
        "int weigh(int, int, int, int)", "int weight(int, int, int)", "int worth(int, int, int)",
        "int firm(int, int)", "int told(int, int)", "int mark(int, int)", "int mean(int)", "int meanSights()",
        "int best()", "int does(int, int)", "int bestForgetting()", "int lost()", "int worthOf(int, int)",
        "int knowing()", "int inHand(int)", "int needless(int, int)", "int span(int, int, boolean)",
        "int chance(int, int)", "int end(boolean)", "int row(int, int)", "int lay(int, int, int)", "int tear(int)",
        "int copy(int, int, int, int, int)", "int fill(int, int)", "int asked()", "long upper()", "long lower()",
        "int count(int)", "int finding()", "int findings(int)", "long digest()"};
    private static final Due DUE = new Due("LanguageTest");

    public static void main(String[] args) throws Exception {
        face();
        nestedClasses();
        String source = Files.readString(Path.of("src/main/java/SightChart.java"));
        words(source);
        depth(codeOf(source));
        DUE.end();
    }

    private static void none(String what, boolean found) {
        DUE.is(what, found ? 1 : 0, 0);
    }

    private static void face() {
        TreeSet<String> want = new TreeSet<>(Arrays.asList(FACE));
        TreeSet<String> names = new TreeSet<>();
        for (String f : FACE) names.add(f.substring(f.indexOf(' ') + 1, f.indexOf('(')));
        for (Method m : SightChart.class.getDeclaredMethods()) {
            if (Modifier.isPrivate(m.getModifiers())) {
                none("a private method with a public name: " + m.getName(), names.contains(m.getName()));
                continue;
            }
            String types = Arrays.toString(m.getParameterTypes());
            String told = m.getReturnType() + " " + m.getName() + "(" + types.substring(1, types.length() - 1) + ")";
            none("not of the face: " + told, !want.remove(told) || !Modifier.isPublic(m.getModifiers()));
        }
        none("missing of the face: " + want, !want.isEmpty());
        Constructor<?>[] made = SightChart.class.getDeclaredConstructors();
        DUE.is("constructors", made.length, 1);
        none("public constructor without parameters", made[0].getParameterCount() != 0
            || !Modifier.isPublic(made[0].getModifiers()));
        none("public and final", (SightChart.class.getModifiers() & (Modifier.PUBLIC | Modifier.FINAL))
            != (Modifier.PUBLIC | Modifier.FINAL));
    }

    private static void nestedClasses() {
        String constants = " BAD FULL FINDING STATE SPENT NONE ";
        int[] values = {-1, -2, -3, -4, -6, -9};
        int[] held = {SightChart.BAD, SightChart.FULL, SightChart.FINDING, SightChart.STATE, SightChart.SPENT, SightChart.NONE};
        for (int i = 0; i < values.length; i++) DUE.is("constant " + i, held[i], values[i]);
        for (Field f : SightChart.class.getDeclaredFields()) {
            boolean open = !Modifier.isPrivate(f.getModifiers());
            none("an open field: " + f.getName(), open != constants.contains(" " + f.getName() + " "));
        }
        Class<?>[] inside = SightChart.class.getDeclaredClasses();
        none("more than twelve classes", inside.length > 12);
        for (Class<?> c : inside) {
            none(c.getName() + " is not static", !Modifier.isStatic(c.getModifiers()));
            int fields = 0;
            for (Field f : c.getDeclaredFields()) {
                if (!Modifier.isStatic(f.getModifiers())) fields++;
                else none("static state: " + f.getName(), !Modifier.isFinal(f.getModifiers()));
            }
            none("more than twenty fields in " + c.getName(), fields > 20);
        }
    }

    private static String codeOf(String source) {
        return source.replaceAll("(?s)/\\*.*?\\*/", " ").replaceAll("//[^\n]*", " ");
    }

    /** Methods of one name are taken as one, and calls between these as one call more. */
    private static void depth(String code) {
        Map<String, String> bodies = new TreeMap<>();
        Matcher heads = Pattern.compile("(?m)^ {4,8}[\\w\\[\\] ]*?(\\w+)\\([^)]*\\) \\{\\n").matcher(code);
        while (heads.find()) {
            String margin = heads.group().replaceAll("(?s)\\S.*", "");
            int end = code.indexOf("\n" + margin + "}", heads.end() - 1);
            bodies.merge(heads.group(1), code.substring(heads.end(), end), String::concat);
        }
        none("no methods found", bodies.size() < FACE.length);
        for (String name : bodies.keySet()) none(name + " calls more than eight deep", depthOf(name, bodies, 0) > 8);
    }

    private static int depthOf(String name, Map<String, String> bodies, int above) {
        int deepest = Pattern.compile("\\b" + name + "\\(").matcher(bodies.get(name)).find() ? 1 : 0;
        Matcher calls = Pattern.compile("(?<!Arrays\\.)\\b(\\w+)\\(").matcher(bodies.get(name));
        while (above < 20 && calls.find()) {
            if (bodies.containsKey(calls.group(1)) && !calls.group(1).equals(name)) {
                deepest = Math.max(deepest, depthOf(calls.group(1), bodies, above + 1));
            }
        }
        return deepest + 1;
    }

    private static void words(String source) {
        String code = codeOf(source);
        String[] never = {"throw", "throws", "try", "catch", "synchronized", "assert", "package", "Object",
            "hashCode", "equals", "toString", "Random", "Thread", "\\w+Exact", "protected", "double", "float"};
        for (String word : never) {
            none("a word that is not allowed: " + word, Pattern.compile("\\b" + word + "\\b").matcher(code).find());
        }
        none("a lambda", code.contains("->"));
        none("a method reference", code.contains("::"));
        none("another call of System", Pattern.compile("System\\.(?!arraycopy)").matcher(code).find());
        Matcher imports = Pattern.compile("import ([^;]*);").matcher(code);
        while (imports.find()) none("import " + imports.group(1), !imports.group(1).equals("java.util.Arrays"));
        for (int i = 0; i < source.length(); i++) none("a character above 255", source.charAt(i) > 255);
    }
}
