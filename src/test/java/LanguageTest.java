import java.io.IOException;
import java.nio.file.Files;
import java.nio.file.Path;
import java.util.ArrayList;
import java.util.List;
import java.util.regex.Matcher;
import java.util.regex.Pattern;

/** What of LANGUAGE.md can be seen in the text of the program or by reflection. */
public final class LanguageTest {
    private static final String[] FACE = {"feed", "end", "island", "fault", "surname", "house", "value", "spring",
        "held", "swap", "ring", "ringAt", "trade", "book", "go", "went", "keeper", "envy", "worth", "waiting",
        "wedding", "broken", "seats", "seatOf", "sit", "roll", "dealings", "dealt", "could", "grave", "lapsed", "luck",
        "unfair", "image", "restore", "count"};
    private static final String[] RULED_OUT = {"->", "::", "\\btry\\b", "\\bcatch\\b", "\\bfinally\\b", "\\bassert\\b",
        "\\bsynchronized\\b", "\\bhashCode\\b", "\\btoString\\b", "\\bMath\\.\\w+Exact\\b", "\\bSystem\\b",
        "\\bThread\\b", "\\bObject\\b", "\\bRandom\\b", "\\bstatic \\{", "\\bdouble\\b", "\\bfloat\\b", "\\bclone\\b",
        "\" \\+", "\\+ \"", "\\bprotected\\b", "\\binstanceof\\b", "\\bnew int\\[[^\\]]*\\]\\["};

    public static void main(String[] args) throws IOException, ClassNotFoundException {
        Check check = new Check();
        List<String> lines = Files.readAllLines(Path.of("src/main/java/NameHat.java"));
        text(check, lines);
        methods(check, lines);
        face(check);
        check.end("LanguageTest");
    }

    private static void text(Check check, List<String> lines) {
        int imports = 0;
        for (int i = 0; i < lines.size(); i++) {
            String line = lines.get(i);
            String code = line.replaceAll("//.*", "").replaceAll("^ *(/\\*\\*|\\*).*", "");
            for (String one : RULED_OUT) {
                check.due("line " + (i + 1) + " without " + one, Pattern.compile(one).matcher(code).find(), false);
            }
            for (char c : line.toCharArray()) {
                check.due("line " + (i + 1) + " of plain signs", c >= 32 && c < 127, true);
            }
            check.due("line " + (i + 1) + " not too long", line.length() <= 120, true);
            imports += line.startsWith("import ") ? 1 : 0;
            check.due("no package", line.startsWith("package"), false);
        }
        check.due("imports", imports, 1);
    }

    /** No method is longer than some sixty lines or takes more than seven parameters. */
    private static void methods(Check check, List<String> lines) {
        Pattern head = Pattern.compile("^( {4}| {8})[a-zA-Z].*\\((.*)\\).*\\{$");
        int start = -1;
        String indent = "";
        for (int i = 0; i < lines.size(); i++) {
            Matcher matcher = head.matcher(lines.get(i));
            if (matcher.matches()) {
                start = i;
                indent = matcher.group(1);
                int commas = matcher.group(2).replaceAll("[^,]", "").length();
                check.due("parameters at line " + (i + 1), commas < 7, true);
            } else if (start >= 0 && lines.get(i).equals(indent + "}")) {
                check.due("lines of the method at line " + (start + 1), i - start + 1 <= 60, true);
                start = -1;
            }
        }
    }

    private static void face(Check check) throws ClassNotFoundException {
        Class<?> hat = NameHat.class;
        List<String> names = new ArrayList<>();
        for (java.lang.reflect.Method method : hat.getDeclaredMethods()) {
            int how = method.getModifiers();
            if (java.lang.reflect.Modifier.isPublic(how)) {
                names.add(method.getName());
            } else {
                check.due(method + " is private", java.lang.reflect.Modifier.isPrivate(how), true);
            }
        }
        check.due("public methods", names.size(), FACE.length);
        for (String name : FACE) {
            check.due(name + " is public", names.contains(name), true);
        }
        for (java.lang.reflect.Field field : hat.getDeclaredFields()) {
            int how = field.getModifiers();
            boolean isNone = field.getName().equals("NONE");
            check.due(field + " is hidden", java.lang.reflect.Modifier.isPrivate(how) || isNone, true);
        }
        List<Class<?>> inside = new ArrayList<>(List.of(hat.getDeclaredClasses()));
        check.due("classes of the file", inside.size() + 1 <= 12, true);
        inside.add(hat);
        for (Class<?> one : inside) {
            int fields = 0;
            for (java.lang.reflect.Field field : one.getDeclaredFields()) {
                int how = field.getModifiers();
                boolean isStatic = java.lang.reflect.Modifier.isStatic(how);
                check.due(field + " is final", !isStatic || java.lang.reflect.Modifier.isFinal(how), true);
                fields += isStatic ? 0 : 1;
            }
            check.due("fields of " + one, fields <= 20, true);
            for (java.lang.reflect.Method method : one.getDeclaredMethods()) {
                boolean isFace = one == hat && java.lang.reflect.Modifier.isPublic(method.getModifiers());
                check.due(method + " has a name of its own", isFace || !List.of(FACE).contains(method.getName()), true);
            }
        }
    }
}
