import java.io.IOException;
import java.lang.reflect.Constructor;
import java.lang.reflect.Field;
import java.lang.reflect.Member;
import java.lang.reflect.Method;
import java.lang.reflect.Modifier;
import java.nio.charset.StandardCharsets;
import java.nio.file.Files;
import java.nio.file.Path;
import java.util.ArrayList;
import java.util.Arrays;
import java.util.HashSet;
import java.util.List;
import java.util.Set;
import java.util.TreeSet;
import java.util.regex.Matcher;
import java.util.regex.Pattern;

/** The class has the document's face and no more, and keeps to those rules of LANGUAGE.md that can be read off it. */
public final class FaceTest {
    private static final Set<String> FACE = new TreeSet<>(Arrays.asList(
        "INVALID_ARGUMENT", "NOT_POSSIBLE", "LIMIT_REACHED", "NOT_FOUND",
        "chip(int,int)", "elect(int)", "kill(int)", "breaks(int,int)", "chipOf(int,int)", "rowOf(int,int)",
        "put(int,int)", "write(int,int)", "read(int)", "carry(int,int)", "empty(int)", "wordOf(int,int)",
        "familyOf(int,int)", "tick(int)", "loss(int,int)", "safe()", "worstTwo(int)", "calm()", "heir(int)",
        "count(int)", "undo()", "type(int)", "clearText()", "fault(int)", "play()"));
    private static final String[] FORBIDDEN = {
        "throw", "throws", "try", "catch", "finally", "synchronized", "assert", "package", "yield", "var",
        "volatile", "transient", "native", "strictfp", "default\\s+\\w+\\s*\\(", "->", "::", "@\\w+", "Thread",
        "Random", "nanoTime", "currentTimeMillis", "hashCode", "toString", "Exact\\s*\\("};

    private static final Path PROGRAM = Path.of("src", "main", "java", "GodChips.java");

    private static int wrong;

    private static void need(boolean fine, String what) {
        if (!fine) {
            wrong++;
            System.out.println(what);
        }
    }

    private static boolean hidden(Member member) {
        return Modifier.isPrivate(member.getModifiers()) || member.isSynthetic();
    }

    private static void face() {
        Class<?> type = GodChips.class;
        need(Modifier.isPublic(type.getModifiers()) && Modifier.isFinal(type.getModifiers()), "public and final");
        Set<String> shown = new TreeSet<>();
        Set<String> publicNames = new HashSet<>();
        for (Field field : type.getDeclaredFields()) {
            if (!hidden(field)) {
                shown.add(field.getName());
                need(field.getModifiers() == (Modifier.PUBLIC | Modifier.STATIC | Modifier.FINAL)
                    && field.getType() == int.class, field.getName() + " is no constant");
            }
        }
        for (Method method : type.getDeclaredMethods()) {
            if (!hidden(method)) {
                String types = Arrays.toString(method.getParameterTypes()).replaceAll("[\\[\\] ]", "");
                shown.add(method.getName() + "(" + types + ")");
                publicNames.add(method.getName());
                need(method.getModifiers() == Modifier.PUBLIC && method.getReturnType() == int.class,
                    method.getName() + " is not as in the face");
            }
        }
        need(shown.equals(FACE), "the face is " + shown);
        Constructor<?>[] makers = type.getDeclaredConstructors();
        need(makers.length == 1 && makers[0].getParameterCount() == 0
            && Modifier.isPublic(makers[0].getModifiers()), "one public constructor");
        List<Class<?>> all = new ArrayList<>(Arrays.asList(type.getDeclaredClasses()));
        need(all.size() <= 11, "at most twelve classes");
        all.add(type);
        for (Class<?> one : all) {
            inside(one, publicNames);
        }
    }

    private static void inside(Class<?> type, Set<String> publicNames) {
        if (type != GodChips.class) {
            need(Modifier.isStatic(type.getModifiers()) && !Modifier.isPublic(type.getModifiers())
                && !Modifier.isProtected(type.getModifiers()), type + " is hidden and static");
        }
        int fields = 0;
        for (Field field : type.getDeclaredFields()) {
            boolean constant = Modifier.isStatic(field.getModifiers());
            need(!constant || Modifier.isFinal(field.getModifiers()), field + " is final");
            fields += constant ? 0 : 1;
        }
        need(fields <= 20, type + " has " + fields + " fields");
        for (Method method : type.getDeclaredMethods()) {
            need(method.getParameterCount() <= 7, method + " has at most seven parameters");
            need(!hidden(method) || !publicNames.contains(method.getName()), method + " has a public one's name");
        }
    }

    private static String textOf(Path path) throws IOException {
        return new String(Files.readAllBytes(path), StandardCharsets.ISO_8859_1);
    }

    /** The document's face stands in the program line by line, in its order, each group of calls behind its heading. */
    private static void document() throws IOException {
        Path path = Path.of("..", "shared", "DOC.md");
        if (Files.notExists(path)) {
            System.out.println("there is no document to compare with");
            return;
        }
        String document = textOf(path);
        Matcher code = Pattern.compile("(?s)```java\n(.*?)\n```").matcher(document);
        need(code.find(), "the document shows a face");
        Matcher calls = Pattern.compile("Ahead of the calls (.*) the interface says: (---- .*)\\.").matcher(document);
        List<String> lines = new ArrayList<>(Arrays.asList(code.group(1).split("\n")));
        int headings = 0;
        while (calls.find()) {
            String first = calls.group(1).replaceAll("^`(\\w+)`.*$", "$1");
            int at = 0;
            while (at < lines.size() && !lines.get(at).startsWith("    public int " + first + "(")) {
                at++;
            }
            lines.add(at, "    // " + calls.group(2));
            headings++;
        }
        need(headings == 5, "the document tells five headings");
        need(lines.size() == 32 + headings, "the document's face has 30 members");
        String program = textOf(PROGRAM);
        int from = 0;
        for (String line : lines.subList(0, lines.size() - 1)) {
            String due = line.endsWith(");") ? line.replace(");", ") {") : line;
            int at = program.indexOf("\n" + due + "\n", from);
            need(at >= 0, "the program has no line '" + due + "' behind the one ahead of it in the document");
            from = Math.max(at, from);
        }
    }

    private static void source() throws IOException {
        String text = textOf(PROGRAM);
        need(text.chars().allMatch(sign -> sign == '\n' || sign >= 32 && sign < 127), "plain signs only");
        String code = text.replaceAll("(?s)/\\*.*?\\*/", "").replaceAll("//[^\n]*", "");
        for (String word : FORBIDDEN) {
            Matcher found = Pattern.compile(Character.isLetter(word.charAt(0)) ? "\\b" + word : word).matcher(code);
            boolean whole = word.matches("[a-z]+");
            while (found.find()) {
                boolean goesOn = whole && found.end() < code.length()
                    && Character.isJavaIdentifierPart(code.charAt(found.end()));
                need(goesOn, "'" + word + "' stands in the program");
            }
        }
        Matcher imports = Pattern.compile("(?m)^import (.*);").matcher(code);
        while (imports.find()) {
            need(imports.group(1).matches("java\\.util\\.(Arrays|ArrayList|List|Iterator)"), imports.group());
        }
        Matcher calls = Pattern.compile("\\b(System|Arrays|Integer|Math|Long|String)\\.(\\w+)").matcher(code);
        Set<String> library = new HashSet<>(Arrays.asList("System.arraycopy", "Arrays.fill", "Integer.bitCount"));
        while (calls.find()) {
            need(library.contains(calls.group()), calls.group() + " is not one of the library's that are used");
        }
        nothingIsMadeByCalls(code);
        methodsAreShort(text);
    }

    /** All calls of a run share one room, so only the constructor makes objects and rows. */
    private static void nothingIsMadeByCalls(String code) {
        String calls = code.substring(code.indexOf("public int chip("));
        for (String line : calls.split("\n")) {
            need(!line.matches(".*\\bnew\\b.*") || line.matches("        final \\w+\\[\\] \\w+ = new \\w+\\[[\\w *]+\\];"),
                "a call makes something: " + line.trim());
        }
    }

    private static void methodsAreShort(String text) {
        int line = 0;
        int begin = 0;
        for (String one : text.split("\n")) {
            line++;
            if (one.matches(" {4,8}[a-zA-Z].*\\) \\{")) {
                begin = line;
            }
            if (one.matches(" {4,8}\\}") && begin > 0) {
                need(line - begin < 60, "the method at line " + begin + " is long");
                begin = 0;
            }
        }
    }

    public static void main(String[] args) throws IOException {
        face();
        document();
        source();
        System.out.println(wrong == 0 ? "the face and the rules hold" : wrong + " rules do not hold");
        if (wrong != 0) {
            System.exit(1);
        }
    }
}
