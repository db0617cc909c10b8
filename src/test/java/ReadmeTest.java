import java.io.File;
import java.lang.reflect.Method;
import java.lang.reflect.Modifier;
import java.nio.file.Files;
import java.nio.file.Path;
import java.util.Arrays;
import java.util.TreeSet;
import java.util.regex.Matcher;
import java.util.regex.Pattern;

/** README.md says how to use the class and how to run its tests: what it says must be so. */
public final class ReadmeTest {
    private static final Due due = new Due();

    public static void main(String[] args) throws Exception {
        String page = Files.readString(Path.of("README.md"));
        example(page);
        calls(page);
        text(page);
        constants(page);
        tests(page);
        due.end("ReadmeTest");
    }

    /** Each line of the example but its first two is a call, with its answer behind it. */
    private static void example(String page) {
        Matcher block = Pattern.compile("(?s)```java\n(.*?)```").matcher(page);
        due.holds("there is an example", block.find());
        String[] lines = block.group(1).split("\n");
        due.holds("it begins with a new object", lines[0].equals("PaidRests x = new PaidRests();"));
        PaidRests x = new PaidRests();
        Matcher told = Pattern.compile("for \\(char c : \"(.*)\"\\.toCharArray\\(\\)\\) x\\.type\\(c\\);").matcher(lines[1]);
        due.holds("then a text is told", told.matches());
        for (char letter : told.group(1).toCharArray()) {
            x.type(letter);
        }
        for (String line : Arrays.copyOfRange(lines, 2, lines.length)) {
            Matcher call = Pattern.compile("x\\.(\\w+\\(.*?\\)); +// (-?\\d+)( \\([A-Z]+\\))?: .*").matcher(line);
            due.holds("a call with its answer: " + line, call.matches());
            due.is(line, Long.parseLong(call.group(2)), Edges.ask(x, call.group(1).replace(" ", "")));
        }
        due.holds("there are calls in it", lines.length > 10);
    }

    /** Each call of the face stands in a table with as many names as it takes numbers, and nothing else does. */
    private static void calls(String page) {
        TreeSet<String> said = new TreeSet<>(), face = new TreeSet<>();
        String tables = page.substring(page.indexOf("### The calls"), page.indexOf("What is refused"));
        Matcher call = Pattern.compile("`(\\w+)\\(([^)]*)\\)`").matcher(tables);
        while (call.find()) {
            due.holds("once: " + call.group(), said.add(call.group(1) + " " + (call.group(2).isEmpty() ? 0 : call.group(2).split(",").length)));
        }
        for (Method m : PaidRests.class.getDeclaredMethods()) {
            if (Modifier.isPublic(m.getModifiers())) face.add(m.getName() + " " + m.getParameterCount());
        }
        due.holds("the calls are " + face + ", said are " + said, face.equals(said));
    }

    /** The bounds in the table of ITEMS are read, one more and one less are not. */
    private static void text(String page) {
        String[][] rows = {{"| `b N` |", "b#;"}, {"| `p L` ", "p#rrrrrrrr;"}, {"| `m L N` |", "m# 0;"}, {"| `m L N` |", "m1 #;"},
            {"| `w N` |", "w#;"}, {"| `f N` |", "f#;"}};
        for (int i = 0; i < rows.length; i++) {
            int at = page.indexOf(rows[i][0]);
            due.holds("there is a row " + rows[i][0], at >= 0);
            Matcher bounds = Pattern.compile("(\\d+) to (\\d+)").matcher(page.substring(at, page.indexOf('\n', at)));
            due.holds("bounds of " + rows[i][0], bounds.find() && (i != 3 || bounds.find()));
            int lo = Integer.parseInt(bounds.group(1)), hi = Integer.parseInt(bounds.group(2));
            for (int n : new int[] {lo - 1, lo, hi, hi + 1}) {
                int items = Due.tell(new PaidRests(), rows[i][1].replace("#", Integer.toString(n)));
                due.is("score of " + n + " in " + rows[i][1], n >= lo && n <= hi ? 1 : -10 - rows[i][1].indexOf('#'), items);
            }
        }
        PaidRests x = new PaidRests();
        int[] atFirst = {x.count(2), x.count(3), x.count(4)};
        for (int i = 0; i < 3; i++) {
            due.holds("at first " + atFirst[i], page.contains("(" + atFirst[i] + ", if it isn't told); " + (i == 0 ? "only" : "once")));
        }
    }

    private static void constants(String page) {
        String[] said = {"`BAD` (" + PaidRests.BAD + ")", "`STATE` (" + PaidRests.STATE + ")", "`FULL` (" + PaidRests.FULL + ")",
            "`NONE` (" + PaidRests.NONE + ")", "`NO` (" + PaidRests.NO + ")"};
        for (String words : said) {
            due.holds("it says " + words, page.contains(words));
        }
        for (String call : new String[] {"coins(5,0)", "share(5)", "costs(5)", "rate(0,5)"}) {
            due.is(call, PaidRests.NO, Edges.ask(new PaidRests(), call));
            due.holds("it says that " + call + " is NO", page.contains("`" + call.substring(0, call.indexOf('(')) + "`"));
        }
    }

    private static void tests(String page) {
        due.holds("it says how tests are run", page.contains("    .ci/run\n") && page.contains("../shared/tests"));
        due.holds(".ci/run can be run", new File(".ci/run").canExecute());
        for (String file : new File("src/test/java").list()) {
            String name = file.replace(".java", "");
            due.holds("it names " + name, !name.endsWith("Test") || page.contains("`" + name + "`"));
        }
        Matcher named = Pattern.compile("`(\\w+Test|NaiveModel|Edges)`").matcher(page);
        while (named.find()) {
            due.holds("there is a " + named.group(1), new File("src/test/java/" + named.group(1) + ".java").exists());
        }
    }
}
