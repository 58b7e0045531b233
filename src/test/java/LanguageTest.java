import java.io.IOException;
import java.lang.reflect.Field;
import java.lang.reflect.Method;
import java.lang.reflect.Modifier;
import java.nio.file.Files;
import java.nio.file.Path;
import java.util.ArrayList;
import java.util.Arrays;
import java.util.HashSet;
import java.util.List;
import java.util.Set;
import java.util.TreeSet;
import java.util.regex.Matcher;
import java.util.regex.Pattern;

/** The face, and the rules of LANGUAGE.md that can be read off the class and its source. */
public final class LanguageTest {
    private static final String[] FACE = {
        "int feed(int,int,int,int,int)", "boolean end(int)", "int field()", "int fault()", "int figure(int,int)", "int looker(int,int)",
        "int cell(int,int,int)", "int now(int)", "int land(int)", "int turn(int,int)", "int walk(int,int)", "int shut(int)", "int open(int)",
        "int face(int,int)", "int hours(int)", "int undo()", "int where(int,int)", "int comes(int,int,int)", "int cover()", "int coverBy(int)",
        "int few()", "int fewest()", "int blind(int,int,int,int)", "int blinded()", "int fits()", "int fitsAt(int)", "int ask()", "int grown()",
        "int farthest()", "int mean(int)", "int line(int)", "int byteAt(int)", "int drawn(int,int)", "int odds(int,int,int)", "int book(int)",
        "int told(int)", "int sentence()", "int said(int)", "boolean image(int)", "boolean restore(int)", "int count(int)"};

    private static int wrong;

    public static void main(String[] args) throws IOException {
        face();
        members(SeenToMove.class, true);
        for (Class<?> c : SeenToMove.class.getDeclaredClasses()) {
            members(c, false);
            due(c + " is private and static", Modifier.isPrivate(c.getModifiers()) && Modifier.isStatic(c.getModifiers()));
        }
        due("twelve classes", SeenToMove.class.getDeclaredClasses().length <= 11);
        source(Files.readString(Path.of(args.length > 0 ? args[0] : "src/main/java/SeenToMove.java")));
        System.out.println(wrong == 0 ? "all rules are kept" : wrong + " rules are not kept");
        if (wrong != 0) {
            System.exit(1);
        }
    }

    private static void due(String what, boolean so) {
        if (!so) {
            wrong++;
            System.out.println("not so: " + what);
        }
    }

    private static void face() {
        Set<String> is = new TreeSet<>();
        Set<String> hidden = new TreeSet<>();
        Set<String> names = new HashSet<>();
        for (Method m : SeenToMove.class.getDeclaredMethods()) {
            if (Modifier.isPrivate(m.getModifiers())) {
                hidden.add(m.getName());
                continue;
            }
            due(m + " is public", Modifier.isPublic(m.getModifiers()));
            List<String> types = new ArrayList<>();
            for (Class<?> t : m.getParameterTypes()) {
                types.add(t.getSimpleName());
            }
            is.add(m.getReturnType().getSimpleName() + " " + m.getName() + "(" + String.join(",", types) + ")");
            names.add(m.getName());
        }
        due("the face is as told", is.equals(new TreeSet<>(Arrays.asList(FACE))));
        hidden.retainAll(names);
        due("no private method bears a public name: " + hidden, hidden.isEmpty());
        due("NONE", SeenToMove.NONE == -1);
        due("public and final", Modifier.isPublic(SeenToMove.class.getModifiers()) && Modifier.isFinal(SeenToMove.class.getModifiers()));
        due("one public constructor", SeenToMove.class.getConstructors().length == 1 && SeenToMove.class.getDeclaredConstructors().length == 1);
    }

    private static void members(Class<?> c, boolean isOuter) {
        int fields = 0;
        for (Field f : c.getDeclaredFields()) {
            int m = f.getModifiers();
            if (Modifier.isStatic(m)) {
                due(f + " is final", Modifier.isFinal(m));
            } else {
                fields++;
            }
            due(f + " is hidden", !isOuter || Modifier.isPrivate(m) || f.getName().equals("NONE"));
        }
        due(c + " has some twenty fields", fields <= 20);
        for (Method m : c.getDeclaredMethods()) {
            due(m + " has seven parameters at most", m.getParameterCount() <= 7);
        }
    }

    private static void source(String text) {
        String code = text.replaceAll("(?s)/\\*.*?\\*/", "").replaceAll("//[^\n]*", "").replaceAll("\"[^\"\n]*\"", "\"\"");
        for (String banned : new String[] {"\\btry\\b", "\\bcatch\\b", "\\bfinally\\b", "->", "::", "\\bsynchronized\\b", "\\bassert\\b",
            "\\bdouble\\b", "\\bfloat\\b", "\\bObject\\b", "\\bprotected\\b", "\\bpackage\\b", "Exact\\(", "\"\" *\\+", "\\+ *\"\"",
            "\\bwhile\\b", "\\bstatic \\{", "\\brecord\\b", "\\binstanceof\\b"}) {
            due("no " + banned, !Pattern.compile(banned).matcher(code).find());
        }
        Matcher imports = Pattern.compile("import ([\\w.]+);").matcher(code);
        while (imports.find()) {
            due("import " + imports.group(1), imports.group(1).equals("java.util.NoSuchElementException"));
        }
        Set<String> library = new TreeSet<>();
        Matcher calls = Pattern.compile("\\b(Math|Integer|Long|System|Arrays|String)\\.(\\w+)").matcher(code);
        while (calls.find()) {
            library.add(calls.group());
        }
        library.removeAll(Set.of("Math.min", "Math.max", "Math.floorMod", "Integer.bitCount", "System.arraycopy"));
        due("the library: " + library, library.isEmpty());
        due("texts of signs 1 to 127", text.chars().allMatch(c -> c < 128));
        indexes(code);
        made(code);
        lengths(code);
    }

    /** An index stands only where the same method tests it: in the rows' own functions, and in loops over a row. */
    private static void indexes(String code) {
        String[] lines = code.split("\n");
        for (int i = 0; i < lines.length; i++) {
            Matcher m = Pattern.compile("\\b(\\w+)\\[(\\w+)\\]").matcher(lines[i]);
            while (m.find()) {
                String around = String.join("\n", Arrays.copyOfRange(lines, Math.max(0, i - 4), i + 1));
                boolean isNew = Pattern.compile("new \\w+\\[").matcher(lines[i]).find();
                due("index tested: " + lines[i].trim(), isNew || around.contains(m.group(2) + " < " + m.group(1) + ".length"));
            }
        }
    }

    /** Nothing is made but in fields and constructors, and what is thrown. */
    private static void made(String code) {
        for (String l : code.split("\n")) {
            boolean inField = l.contains("final ") && l.contains(" = new ");
            boolean inRing = l.trim().equals("ring[i] = new State(field);");
            due("made: " + l.trim(), !l.contains("new ") || inField || inRing || l.contains("throw new "));
        }
    }

    private static void lengths(String code) {
        String[] lines = code.split("\n");
        int start = -1;
        String indent = "";
        for (int i = 0; i < lines.length; i++) {
            Matcher m = Pattern.compile("^((?:    ){1,2})[\\w\\[\\] ]+\\([\\w\\[\\], ]*\\)(?: throws \\w+)? \\{$").matcher(lines[i]);
            if (m.find()) {
                start = i;
                indent = m.group(1);
            } else if (start >= 0 && lines[i].equals(indent + "}")) {
                due("short: " + lines[start].trim(), i - start < 60);
                start = -1;
            }
        }
    }
}
