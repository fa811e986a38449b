import java.io.IOException;
import java.lang.reflect.Constructor;
import java.lang.reflect.Field;
import java.lang.reflect.Method;
import java.lang.reflect.Modifier;
import java.nio.file.Files;
import java.nio.file.Path;
import java.util.ArrayList;
import java.util.HashSet;
import java.util.List;
import java.util.Set;
import java.util.TreeSet;
import java.util.regex.Matcher;
import java.util.regex.Pattern;

/** What of ../shared/LANGUAGE.md can be seen from the class file and from the text of the program. */
public final class LanguageTest {
    private static final String SOURCE = "src/main/java/EachBringsAnother.java";
    private static final List<String> WRONG = new ArrayList<>();

    private static void must(boolean holds, String what) {
        if (!holds) {
            WRONG.add(what);
        }
    }

    public static void main(String[] args) throws IOException {
        faceIsTheDocuments();
        classesInside();
        wordsThatMayNotStand();
        methodsStayShort();
        rowsAreMadeOnce();
        for (String wrong : WRONG) {
            System.out.println(wrong);
        }
        System.out.println("LanguageTest: " + (WRONG.isEmpty() ? "all is kept" : WRONG.size() + " wrong"));
        if (!WRONG.isEmpty()) {
            System.exit(1);
        }
    }

    private static String head(Method m) {
        StringBuilder s = new StringBuilder(m.getReturnType() + " " + m.getName());
        for (Class<?> p : m.getParameterTypes()) {
            s.append(' ').append(p);
        }
        for (Class<?> e : m.getExceptionTypes()) {
            s.append(" throws ").append(e.getSimpleName());
        }
        return s.toString();
    }

    private static Set<String> facesInDocument() throws IOException {
        Set<String> heads = new TreeSet<>();
        Matcher m = Pattern.compile("    public (int|boolean) (\\w+)\\(([^)]*)\\)( throws NoSuchElementException)?;")
            .matcher(Files.readString(Path.of("../shared/DOC.md")));
        while (m.find()) {
            StringBuilder s = new StringBuilder(m.group(1) + " " + m.group(2));
            for (String p : m.group(3).split(", ")) {
                s.append(p.isEmpty() ? "" : " " + p.split(" ")[0]);
            }
            heads.add(s + (m.group(4) == null ? "" : m.group(4)));
        }
        return heads;
    }

    private static void faceIsTheDocuments() throws IOException {
        Class<?> c = EachBringsAnother.class;
        must(Modifier.isPublic(c.getModifiers()) && Modifier.isFinal(c.getModifiers()), "the class is public and final");
        Set<String> heads = new TreeSet<>();
        Set<String> names = new HashSet<>();
        for (Method m : c.getDeclaredMethods()) {
            if (!Modifier.isPrivate(m.getModifiers()) && !m.isSynthetic()) {
                must(Modifier.isPublic(m.getModifiers()), m + " is public or private");
                heads.add(head(m));
                names.add(m.getName());
            }
        }
        must(heads.equals(facesInDocument()), "the methods are the document's: " + heads);
        must(heads.size() == 42, "there are 42 methods");
        for (Method m : c.getDeclaredMethods()) {
            must(!Modifier.isPrivate(m.getModifiers()) || !names.contains(m.getName()), m + " has a name of its own");
        }
        for (Field f : c.getDeclaredFields()) {
            must(f.getName().equals("NONE") || Modifier.isPrivate(f.getModifiers()) || f.isSynthetic(), f + " is private");
            must(!Modifier.isStatic(f.getModifiers()) || Modifier.isFinal(f.getModifiers()), f + " is final");
        }
        for (Constructor<?> k : c.getDeclaredConstructors()) {
            must(k.getParameterCount() == 0 && Modifier.isPublic(k.getModifiers()), "one public constructor");
        }
    }

    private static void classesInside() {
        Class<?>[] inside = EachBringsAnother.class.getDeclaredClasses();
        must(inside.length <= 11, "some twelve classes at most");
        for (Class<?> c : inside) {
            must(Modifier.isStatic(c.getModifiers()) && !Modifier.isPublic(c.getModifiers()), c + " is static, not public");
            int own = 0;
            for (Field f : c.getDeclaredFields()) {
                boolean isStatic = Modifier.isStatic(f.getModifiers());
                own += isStatic ? 0 : 1;
                must(!isStatic || Modifier.isFinal(f.getModifiers()), f + " is final");
            }
            must(own <= 20, c + " has some twenty fields at most");
            for (Method m : c.getDeclaredMethods()) {
                must(m.getParameterCount() <= 7, m + " takes seven parameters at most");
            }
        }
    }

    private static void wordsThatMayNotStand() throws IOException {
        String source = Files.readString(Path.of(SOURCE));
        String code = source.replaceAll("(?s)/\\*.*?\\*/", "").replaceAll("//[^\n]*", "").replaceAll("\"[^\"]*\"", "\"\"");
        for (String word : new String[] {"->", "::", "\\bfinally\\b", "\\bsynchronized\\b", "\\bassert\\b",
            "\\bpackage\\b", "\\bcatch\\b", "\\bSystem\\.(?!arraycopy\\b)", "\\bThread\\b", "\\bRandom\\b",
            "Exact\\b", "@", "\\btoString\\b", "\\bhashCode\\b", "\\bequals\\b", "\\bvar\\b", "\\.\\.\\."}) {
            must(!Pattern.compile(word).matcher(code).find(), "no " + word);
        }
        Matcher imports = Pattern.compile("import ([^;]*);").matcher(code);
        while (imports.find()) {
            must(imports.group(1).matches("java\\.util\\.(Arrays|NoSuchElementException)"), imports.group());
        }
        for (char c : source.toCharArray()) {
            must(c < 128, "sign " + (int) c + " in the program");
        }
    }

    private static void methodsStayShort() throws IOException {
        int from = 0;
        List<String> lines = Files.readAllLines(Path.of(SOURCE));
        for (int k = 0; k < lines.size(); k++) {
            String line = lines.get(k);
            must(line.length() <= 120, "line " + (k + 1) + " is too long");
            if (line.matches("( {4}| {8})\\S.*\\) (throws \\w+ )?\\{")) {
                from = k;
            }
            if (line.matches("( {4}| {8})}")) {
                must(k - from <= 60 || line.equals("    }"), "the method from line " + (from + 1) + " on is too long");
            }
        }
    }

    /** With each object its rows are made, and its calls use them again. */
    private static void rowsAreMadeOnce() throws IOException {
        for (String line : Files.readAllLines(Path.of(SOURCE))) {
            boolean makes = Pattern.compile("\\bnew \\w+[\\[(]|\\bcopyOf|\\bclone\\b").matcher(line).find();
            must(!makes || line.contains("private final ") || line.contains("throw new "), "made by a call: " + line.trim());
        }
    }
}
