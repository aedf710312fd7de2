import java.lang.reflect.Method;
import java.lang.reflect.Modifier;
import java.nio.file.Files;
import java.nio.file.Path;
import java.util.ArrayList;
import java.util.List;

/** The calls of README.md, line by line as they stand there, and the answers that it tells behind each. */
public final class ReadmeTest {
    private static final List<Integer> ANSWERS = new ArrayList<>();

    public static void main(String[] args) throws Exception {
        use();
        String page = Files.readString(Path.of("README.md"));
        String here = Files.readString(Path.of("src/test/java/ReadmeTest.java"));
        List<String> lines = codeOf(page);
        List<Integer> told = new ArrayList<>();
        for (String line : lines) {
            Due.due("README's line is tried here: " + line, here.contains(statementOf(line)) ? 1 : 0, 1);
            if (line.contains("// ")) {
                told.add(Integer.parseInt(line.substring(line.indexOf("// ") + 3, line.indexOf(':'))));
            }
        }
        Due.due("answers that README tells", told.size(), ANSWERS.size());
        for (int i = 0; i < Math.min(told.size(), ANSWERS.size()); i++) {
            Due.due("README's answer " + i, ANSWERS.get(i), told.get(i));
        }
        for (Method m : LastLight.class.getDeclaredMethods()) {
            if (Modifier.isPublic(m.getModifiers())) {
                Due.due("README names " + m.getName(), page.contains("`" + m.getName() + "`") ? 1 : 0, 1);
            }
        }
        Due.end();
    }

    private static void use() {
        LastLight house = new LastLight();
        int student = house.lodger(1, 0, 300);
        int baker = house.lodger(2, 0, 500);
        int paid = house.nights(7);
        int purse = house.told(student, 6);
        int clock = house.wrong(student, 20, 0);
        int nobody = house.lodger(6, 0, 300);
        answered(student, baker, paid, purse, clock, nobody);
        int fed = house.feed(0x6275726E, 0x20772D66, 0x2A332B78);
        int bytes = house.trim(12);
        int text = house.text();
        int till = house.burns(student, 10);
        answered(fed, bytes, text, till);
        int places = house.sheet(0, 0, 2);
        int first = house.mark(0, 0, 320);
        int second = house.mark(0, 1, 310);
        int other = house.pour(0);
        int held = house.lay(0, 1, baker);
        int worth = house.ask(0, 2);
        answered(places, first, second, other, held, worth);
        int kept = house.keep();
        int cost = house.nights(1);
        int one = house.tell(464);
        int two = house.tell(-489);
        int right = house.check(1);
        int back = house.back();
        int night = house.count(1);
        answered(kept, cost, one, two, right, back, night);
    }

    private static void answered(int... answers) {
        for (int answer : answers) {
            ANSWERS.add(answer);
        }
    }

    private static String statementOf(String line) {
        return "        " + line.substring(0, line.indexOf(';') + 1) + "\n";
    }

    private static List<String> codeOf(String page) {
        List<String> lines = new ArrayList<>();
        boolean code = false;
        for (String line : page.split("\n")) {
            if (line.startsWith("```")) {
                code = line.equals("```java");
            } else if (code && !line.isBlank()) {
                lines.add(line);
            }
        }
        return lines;
    }
}
