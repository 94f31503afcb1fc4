import java.io.IOException;
import java.lang.reflect.Constructor;
import java.lang.reflect.Field;
import java.lang.reflect.Method;
import java.lang.reflect.Modifier;
import java.nio.file.Files;
import java.nio.file.Path;
import java.util.ArrayList;
import java.util.Arrays;
import java.util.List;
import java.util.Map;
import java.util.Set;
import java.util.TreeMap;
import java.util.TreeSet;
import java.util.regex.Matcher;
import java.util.regex.Pattern;

/** What can be seen, by reflection and in the source, of the rules of ../shared/LANGUAGE.md. */
public final class LanguageTest {
    private static final Check CHECK = new Check("LanguageTest");
    private static final int MOST_DEPTH = 8;
    private static final String SOURCE = "src/main/java/BentQuarters.java";
    private static final String[] FACE = {"back()int", "bent(int)int", "clear()int", "count(int)int", "digest()long",
        "does()int", "farthest()int", "form(int)int", "freezes(int,int)int", "indicates(int,int)int", "least()int",
        "limits(int)int", "moved(int)long", "of(int,int)int", "others()int", "price(int)long", "publishes()int",
        "quarter(int)int", "recalls()int", "revised(int)int", "shared(int)int", "stepped(int)long", "told(int)int",
        "total(int,int)int", "type(int)int", "untold(int)int", "year(int,int)int"};

    public static void main(String[] args) throws IOException {
        face();
        for (Class<?> inside : BentQuarters.class.getDeclaredClasses()) {
            insideClass(inside);
        }
        source(Files.readString(Path.of(SOURCE)));
        CHECK.ends();
    }

    private static String told(Method m) {
        List<String> types = new ArrayList<>();
        for (Class<?> type : m.getParameterTypes()) {
            types.add(type.getName());
        }
        return m.getName() + "(" + String.join(",", types) + ")" + m.getReturnType().getName();
    }

    private static void face() {
        Class<?> face = BentQuarters.class;
        CHECK.holds("rule 1: public and final", Modifier.isPublic(face.getModifiers()) && Modifier.isFinal(face.getModifiers()));
        Set<String> publics = new TreeSet<>();
        for (Method m : face.getDeclaredMethods()) {
            if (Modifier.isPrivate(m.getModifiers())) {
                continue;
            }
            CHECK.holds("rule 1: " + m + " is public", Modifier.isPublic(m.getModifiers()) && !Modifier.isStatic(m.getModifiers()));
            publics.add(told(m));
        }
        CHECK.holds("rule 1: the methods of the face " + publics, publics.equals(new TreeSet<>(Arrays.asList(FACE))));
        Constructor<?>[] made = face.getDeclaredConstructors();
        CHECK.holds("rule 1: one constructor", made.length == 1 && Modifier.isPublic(made[0].getModifiers())
                && made[0].getParameterCount() == 0);
        Set<String> fields = new TreeSet<>();
        for (Field f : face.getDeclaredFields()) {
            if (!Modifier.isPrivate(f.getModifiers())) {
                fields.add(f.getName());
            }
            CHECK.holds("rule 5: " + f, !Modifier.isStatic(f.getModifiers()) || Modifier.isFinal(f.getModifiers()));
        }
        CHECK.holds("rule 1: the constants " + fields, fields.equals(new TreeSet<>(List.of("NONE", "BAD", "NO", "FULL"))));
        noNameOfTheFace(face, true);
    }

    private static void noNameOfTheFace(Class<?> of, boolean privateAlone) {
        for (Method m : of.getDeclaredMethods()) {
            if (privateAlone && !Modifier.isPrivate(m.getModifiers())) {
                continue;
            }
            for (String call : FACE) {
                CHECK.holds("rule 1: name of " + m, !call.startsWith(m.getName() + "("));
            }
        }
    }

    private static void insideClass(Class<?> inside) {
        CHECK.holds("rule 2: static " + inside, Modifier.isStatic(inside.getModifiers()));
        int fields = 0;
        for (Field f : inside.getDeclaredFields()) {
            CHECK.holds("rule 5: " + f, !Modifier.isStatic(f.getModifiers()) || Modifier.isFinal(f.getModifiers()));
            fields++;
        }
        CHECK.holds("rule 11: fields of " + inside, fields <= 20);
        for (Method m : inside.getDeclaredMethods()) {
            CHECK.holds("rule 11: parameters of " + m, m.getParameterCount() <= 7);
        }
        noNameOfTheFace(inside, false);
    }

    private static void source(String whole) {
        String code = whole.replaceAll("(?s)/\\*.*?\\*/", " ").replaceAll("//[^\n]*", " ");
        String[] words = {"throw", "throws", "try", "catch", "synchronized", "assert", "import", "package", "instanceof",
            "protected", "volatile", "transient", "native", "strictfp", "var", "hashCode", "toString", "equals", "Exact",
            "random", "nanoTime", "currentTimeMillis", "Thread", "Object", "double", "float"};
        for (String word : words) {
            CHECK.holds("no " + word, !Pattern.compile("\\b" + word + "\\b").matcher(code).find());
        }
        CHECK.holds("rule 2: no lambda, no method reference", !code.contains("->") && !code.contains("::"));
        CHECK.holds("rule 5: no static block", !Pattern.compile("\\bstatic\\s*\\{").matcher(code).find());
        CHECK.holds("rule 10: no joining by +", !code.contains("\""));
        CHECK.holds("signs are 1 to 127", whole.chars().allMatch(c -> c > 0 && c < 128));
        Matcher library = Pattern.compile("\\b(Math|Integer|Long|System|Arrays)\\.(\\w+)").matcher(code);
        Set<String> fine = Set.of("Math.max", "Math.min", "Math.abs", "Integer.bitCount", "System.arraycopy");
        while (library.find()) {
            CHECK.holds("rule 4: " + library.group(), fine.contains(library.group()));
        }
        Matcher classes = Pattern.compile("\\bclass\\s+\\w+").matcher(code);
        CHECK.holds("rule 11: some twelve classes", classes.results().count() <= 12);
        CHECK.holds("rule 3: arrays of one dimension", !Pattern.compile("\\[\\s*\\]\\s*\\[").matcher(code).find());
        loopRules(code);
        methodRules(code);
    }

    /** Every loop counts, by one, against a bound that stands in its head. */
    private static void loopRules(String code) {
        CHECK.holds("rule 9: no loop without a counter", !Pattern.compile("\\b(while|do)\\b").matcher(code).find());
        Pattern counted = Pattern.compile("for \\((?:int )?(\\w+) = [^;]+; \\1 (?:(?:<=?) [^;]+; \\1\\+\\+|(?:>=?) [^;]+; \\1--)\\) \\{");
        Matcher loops = Pattern.compile("\\bfor\\b[^\n]*").matcher(code);
        int seen = 0;
        while (loops.find()) {
            CHECK.holds("rule 9: " + loops.group(), counted.matcher(loops.group()).matches());
            seen++;
        }
        CHECK.holds("all loops are seen", seen > 20);
    }

    /** A method begins where a line ends with ") {" that does not begin with a word of a loop or a choice. */
    private static Map<String, String> methods(String whole) {
        Map<String, String> bodies = new TreeMap<>();
        Pattern head = Pattern.compile("(?m)^( +)(?!if|for|while|switch|else)[A-Za-z][^=\n]*?(\\w+)\\([^=\n]*\\) \\{$");
        Matcher m = head.matcher(whole);
        while (m.find()) {
            int end = whole.indexOf("\n" + m.group(1) + "}\n", m.end());
            String had = bodies.put(m.group(2), whole.substring(m.end(), end));
            CHECK.holds("no two methods of the name " + m.group(2), had == null);
        }
        return bodies;
    }

    private static void methodRules(String whole) {
        Map<String, String> bodies = methods(whole);
        CHECK.holds("all methods are seen", bodies.size() > 60 && bodies.containsKey("digest"));
        for (String name : bodies.keySet()) {
            CHECK.holds("rule 11: length of " + name, bodies.get(name).split("\n").length <= 60);
            int depth = depth(name, bodies, 1);
            CHECK.holds("rule 11: calls of " + name + " go " + depth + " deep", depth <= MOST_DEPTH);
        }
    }

    /** How many calls stand open at most from this one on; one that calls itself goes too deep. */
    private static int depth(String name, Map<String, String> bodies, int open) {
        int most = open;
        Matcher calls = Pattern.compile("\\b(\\w+)\\(").matcher(bodies.get(name));
        while (calls.find() && most <= MOST_DEPTH) {
            if (bodies.containsKey(calls.group(1))) {
                most = Math.max(most, depth(calls.group(1), bodies, open + 1));
            }
        }
        return most;
    }
}
