import java.lang.reflect.Constructor;
import java.lang.reflect.Field;
import java.lang.reflect.Method;
import java.lang.reflect.Modifier;
import java.nio.file.Files;
import java.nio.file.Path;
import java.util.ArrayList;
import java.util.List;
import java.util.Set;
import java.util.TreeSet;
import java.util.regex.Matcher;
import java.util.regex.Pattern;

/** The face of the class, and what of LANGUAGE.md can be seen from its text. */
public final class RulesTest {
    private static final String FACE = "lodger3 told2 burns2 as2 turns2 set3 rule2 deal1 seed1 nights1 house1 longest0 behind2 bestLaw2 bedtime3 wrong3 moved3 dark0 wished3 fee0 fine1 feed3 trim1 text0 textTold2 why1 sheet3 mark3 pour1 reads1 copy5 lay3 ask2 item2 rest2 tell1 check1 keep0 back0 count1";
    private static final String CONSTANTS = "BAD NO FULL NONE NOTHING KIND INDEX SIZE";
    private static final String[] RULED_OUT = {"\\bthrow\\b", "\\btry\\b", "\\bcatch\\b", "\\bsynchronized\\b", "\\bassert\\b", "->", "::", "\\bimport\\b", "\\bpackage\\b", "Exact\\b", "\\bSystem\\.(?!arraycopy)", "\\bdouble\\b", "\\bfloat\\b"};

    public static void main(String[] args) throws Exception {
        face();
        size();
        text();
        lengths();
        Due.end();
    }

    private static void face() {
        Set<String> methods = new TreeSet<>();
        Set<String> privates = new TreeSet<>();
        for (Method m : LastLight.class.getDeclaredMethods()) {
            if (Modifier.isPrivate(m.getModifiers())) {
                privates.add(m.getName());
            } else {
                methods.add(m.getName() + m.getParameterCount());
            }
        }
        same("methods", methods, FACE);
        Set<String> constants = new TreeSet<>();
        for (Field f : LastLight.class.getDeclaredFields()) {
            if (!Modifier.isPrivate(f.getModifiers())) {
                constants.add(f.getName());
            }
            Due.due("static and not final: " + f.getName(), Modifier.isStatic(f.getModifiers()) && !Modifier.isFinal(f.getModifiers()) ? 1 : 0, 0);
        }
        same("constants", constants, CONSTANTS);
        Constructor<?>[] made = LastLight.class.getDeclaredConstructors();
        Due.due("constructors", made.length, 1);
        for (String name : privates) {
            Due.due("private method named as a public one: " + name, (" " + FACE.replaceAll("[0-9]", "") + " ").contains(" " + name + " ") ? 1 : 0, 0);
        }
        for (Class<?> inside : LastLight.class.getDeclaredClasses()) {
            Due.due("static: " + inside.getName(), Modifier.isStatic(inside.getModifiers()) ? 1 : 0, 1);
        }
        Due.due("final", Modifier.isFinal(LastLight.class.getModifiers()) ? 1 : 0, 1);
    }

    /** Rule 11, as far as the classes themselves tell it; and rule 1 for the methods of the classes inside. */
    private static void size() {
        Class<?>[] inside = LastLight.class.getDeclaredClasses();
        Due.due("more than 12 classes", inside.length + 1 > 12 ? 1 : 0, 0);
        List<Class<?>> all = new ArrayList<>(List.of(inside));
        all.add(LastLight.class);
        for (Class<?> one : all) {
            int fields = 0;
            for (Field f : one.getDeclaredFields()) {
                fields += Modifier.isStatic(f.getModifiers()) ? 0 : 1;
            }
            Due.due("more than 20 fields: " + one.getName(), fields > 20 ? 1 : 0, 0);
            for (Method m : one.getDeclaredMethods()) {
                Due.due("more than 7 parameters: " + m, m.getParameterCount() > 7 ? 1 : 0, 0);
                boolean named = one != LastLight.class && (" " + FACE.replaceAll("[0-9]", "") + " ").contains(" " + m.getName() + " ");
                Due.due("inside, named as a public one: " + m, named ? 1 : 0, 0);
            }
        }
    }

    /** Methods stay short: from a line that opens one to the line that closes it, as deep in. */
    private static void lengths() throws Exception {
        List<String> lines = Files.readAllLines(Path.of("src/main/java/LastLight.java"));
        int methods = 0;
        for (int i = 0; i < lines.size(); i++) {
            Matcher opens = Pattern.compile("( {4}| {8})(?! )(?!.*\\b(class|if|for|while|switch|else)\\b).*\\) \\{").matcher(lines.get(i));
            if (opens.matches()) {
                methods++;
                int length = lines.subList(i, lines.size()).indexOf(opens.group(1) + "}");
                Due.due("longer than 60 lines: " + lines.get(i).trim(), length < 0 || length > 60 ? 1 : 0, 0);
            }
        }
        Due.due("methods that were looked at", methods > 90 ? 1 : 0, 1);
    }

    private static void same(String name, Set<String> got, String want) {
        Set<String> due = new TreeSet<>(List.of(want.split(" ")));
        if (!got.equals(due)) {
            System.out.println(name + ": " + got + ", due are " + due);
        }
        Due.due(name, got.equals(due) ? 1 : 0, 1);
    }

    private static void text() throws Exception {
        String text = Files.readString(Path.of("src/main/java/LastLight.java"));
        String code = text.replaceAll("(?s)/\\*.*?\\*/", "").replaceAll("//[^\n]*", "");
        for (String word : RULED_OUT) {
            Matcher found = Pattern.compile(word).matcher(code);
            Due.due("ruled out: " + word, found.find() ? 1 : 0, 0);
        }
        List<String> made = new ArrayList<>();
        for (String line : code.split("\n")) {
            // All that is made is made with the object: no call makes anything.
            if (line.contains("new ") && !line.contains(" = new ")) {
                made.add(line.trim());
            }
        }
        Due.due("made elsewhere " + made, made.size(), 0);
        Due.due("signs above 127", code.chars().filter(c -> c > 127).count(), 0);
    }
}
