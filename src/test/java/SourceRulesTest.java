import java.io.IOException;
import java.lang.reflect.Constructor;
import java.lang.reflect.Field;
import java.lang.reflect.Method;
import java.lang.reflect.Modifier;
import java.nio.charset.StandardCharsets;
import java.nio.file.Files;
import java.nio.file.Path;
import java.util.ArrayList;
import java.util.Arrays;
import java.util.HashSet;
import java.util.List;
import java.util.Set;
import java.util.TreeSet;
import java.util.regex.Matcher;
import java.util.regex.Pattern;

/** What of LANGUAGE.md can be seen from outside: by the source's words and by reflection. */
public final class SourceRulesTest {
    private static final Set<String> FACE = new TreeSet<>(List.of("house", "street", "feed", "end", "text", "fault", "by",
            "light", "cover", "open", "fetch", "quench", "warden", "hour", "played", "winters", "undo", "of", "is", "book",
            "foretold", "out", "far", "round", "again", "warmth", "ring", "dawn", "chain", "stone", "seen", "began", "whom",
            "bid", "leave", "cooled", "whose", "befell", "parts", "warmest", "leaves", "kept", "image", "back", "about"));

    public static void main(String[] args) throws IOException {
        String source = Files.readString(Path.of("src/main/java/CoverFires.java"), StandardCharsets.UTF_8);
        signs(source);
        words(bare(source));
        lengths(bare(source));
        face();
        asTheDocument(source);
        for (Class<?> inside : allClasses()) {
            members(inside);
        }
        Due.is("classes, twelve at most", allClasses().size() <= 12, true);
        Due.finish();
    }

    private static void signs(String source) {
        Due.is("signs above 126", source.chars().filter(c -> c > 126).count(), 0);
    }

    /** The source without comments and without what stands in texts and signs. */
    private static String bare(String source) {
        String noComments = source.replaceAll("(?s)/\\*.*?\\*/", " ").replaceAll("//[^\n]*", "");
        return noComments.replaceAll("\"(\\\\.|[^\"\\\\])*\"", "\"\"").replaceAll("'(\\\\.|[^'\\\\])'", "' '");
    }

    private static void words(String bare) {
        for (String word : List.of("throw", "throws", "try", "catch", "finally", "synchronized", "assert", "package",
                "native", "volatile", "transient", "protected", "var", "yield", "Object", "Exception", "Thread", "Random",
                "equals", "hashCode", "toString", "double", "float")) {
            Due.is("word " + word, Pattern.compile("\\b" + word + "\\b").matcher(bare).find(), false);
        }
        for (String sign : List.of("->", "::", "Exact", "\"\" +", "+ \"\"", "@")) {
            Due.is("sign " + sign, bare.contains(sign), false);
        }
        only(bare, "\\bimport ([^;]*);", Set.of("java.util.Arrays"));
        only(bare, "\\b((?:System|Arrays|Math|Integer|Long)\\.\\w+)", Set.of("System.arraycopy", "Arrays.copyOf",
                "Math.max", "Math.min", "Integer.bitCount", "Long.bitCount"));
    }

    private static void only(String bare, String pattern, Set<String> allowed) {
        Matcher matcher = Pattern.compile(pattern).matcher(bare);
        while (matcher.find()) {
            Due.is("use of " + matcher.group(1), allowed.contains(matcher.group(1)), true);
        }
    }

    /** A method's first line ends with "{" behind its parameters, its last is "}" as far in. */
    private static void lengths(String bare) {
        Pattern head = Pattern.compile("^( +)(?!if|for|while|switch|else|\\})[\\w\\[\\]<>, ]*\\w+\\([^;]*\\) \\{$");
        String[] lines = bare.split("\n");
        int methods = 0;
        for (int at = 0; at < lines.length; at++) {
            Matcher matcher = head.matcher(lines[at]);
            if (matcher.matches()) {
                int end = at;
                while (!lines[end].equals(matcher.group(1) + "}")) {
                    end++;
                }
                methods++;
                Due.is("sixty lines at most: " + lines[at].trim(), end - at < 60, true);
            }
        }
        Due.is("methods were found", methods > 100, true);
    }

    private static void face() {
        Class<?> face = CoverFires.class;
        Due.is("public and final", Modifier.isPublic(face.getModifiers()) && Modifier.isFinal(face.getModifiers()), true);
        Set<String> open = new TreeSet<>();
        for (Method method : face.getDeclaredMethods()) {
            if (!Modifier.isPrivate(method.getModifiers()) && !method.isSynthetic()) {
                open.add(method.getName());
            }
        }
        Due.is("the face's methods", open.equals(FACE), true);
        List<String> fields = new ArrayList<>();
        for (Field field : face.getDeclaredFields()) {
            if (!Modifier.isPrivate(field.getModifiers())) {
                fields.add(field.getName());
            }
        }
        Due.is("the face's constants", fields.equals(List.of("NONE")), true);
        Due.is("one constructor", face.getDeclaredConstructors().length, 1);
    }

    /** The public lines of the source are those of the document's code block, each type and name alike. */
    private static void asTheDocument(String source) throws IOException {
        String document = Files.readString(Path.of("../shared/DOC.md"), StandardCharsets.UTF_8);
        Set<String> due = publicLines(document);
        Set<String> made = publicLines(source);
        Due.is("lines of the document's face", due.size(), 48);
        Due.is("the face is the document's", made.equals(due), true);
        made.removeAll(due);
        Due.is("more than the document's face: " + made, made.isEmpty(), true);
    }

    private static Set<String> publicLines(String text) {
        Set<String> lines = new TreeSet<>();
        Matcher matcher = Pattern.compile("(?m)^ *(public [^;{\n]*?) *[;{]$").matcher(text);
        while (matcher.find()) {
            lines.add(matcher.group(1));
        }
        return lines;
    }

    private static List<Class<?>> allClasses() {
        List<Class<?>> all = new ArrayList<>(Arrays.asList(CoverFires.class.getDeclaredClasses()));
        all.add(CoverFires.class);
        return all;
    }

    private static void members(Class<?> inside) {
        boolean outer = inside == CoverFires.class;
        Due.is(inside + " is static", outer || Modifier.isStatic(inside.getModifiers()), true);
        Due.is(inside + " holds no class", outer || inside.getDeclaredClasses().length == 0, true);
        int fields = 0;
        for (Field field : inside.getDeclaredFields()) {
            boolean fixed = Modifier.isStatic(field.getModifiers());
            fields += fixed ? 0 : 1;
            Due.is(inside + " " + field.getName() + " static and final",
                    !fixed || Modifier.isFinal(field.getModifiers()), true);
        }
        Due.is(inside + " twenty fields at most", fields <= 20, true);
        Set<String> taken = new HashSet<>();
        for (Method method : inside.getDeclaredMethods()) {
            taken.add(method.getName());
            Due.is(method + " seven parameters at most", method.getParameterCount() <= 7, true);
            boolean named = FACE.contains(method.getName());
            Due.is(method + " has a name of the face", named && !(outer && Modifier.isPublic(method.getModifiers())), false);
        }
        for (Constructor<?> constructor : inside.getDeclaredConstructors()) {
            Due.is(constructor + " seven parameters at most", constructor.getParameterCount() <= 7, true);
        }
    }
}
