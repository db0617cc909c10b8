import java.lang.management.ManagementFactory;
import java.lang.reflect.Field;
import java.lang.reflect.Method;
import java.lang.reflect.Modifier;
import java.nio.file.Files;
import java.nio.file.Path;
import java.util.ArrayList;
import java.util.Arrays;
import java.util.List;
import java.util.Map;
import java.util.TreeMap;
import java.util.TreeSet;
import java.util.regex.Matcher;
import java.util.regex.Pattern;

/** The rules of LANGUAGE.md that a program can look after: the face, the words used, and the room that calls take. */
public final class RulesTest {
    private static final Due due = new Due();

    private static final String FACE = "back(int) bars(int) broke() clear() coins(int,int) costs(int) count(int) evening()"
        + " exchange() first() forget() gives(int,int) heard(int) keep(int) leftOut(int,int) noted(int,int) now(int)"
        + " odds(int,int,int,int) part(int,int) player(int,int) rate(int,int) rests(int) rich(int) score() share(int)"
        + " sleeps(int,int,int) trace() type(int) undo() who()";

    public static void main(String[] args) throws Exception {
        face();
        innerNames();
        words();
        methodLengths();
        divisors();
        depth();
        loops();
        statics();
        room();
        anyArguments();
        due.end("RulesTest");
    }

    private static void face() {
        Class<?> c = PaidRests.class;
        due.holds("rule 1: public and final", Modifier.isPublic(c.getModifiers()) && Modifier.isFinal(c.getModifiers()));
        TreeSet<String> open = new TreeSet<>();
        for (Method m : c.getDeclaredMethods()) {
            if (!Modifier.isPrivate(m.getModifiers())) {
                StringBuilder s = new StringBuilder();
                for (Class<?> t : m.getParameterTypes()) s.append(s.length() == 0 ? "" : ",").append(t);
                open.add(m.getName() + "(" + s + ")");
                due.holds("rule 1: " + m, m.getReturnType() == (m.getName().equals("trace") ? long.class : int.class));
            }
        }
        due.holds("rule 1: the methods are " + open, String.join(" ", open).equals(FACE));
        TreeSet<String> constants = new TreeSet<>();
        for (Field f : c.getDeclaredFields()) {
            if (!Modifier.isPrivate(f.getModifiers())) constants.add(f.getName());
        }
        due.holds("rule 1: the constants are " + constants, constants.toString().equals("[BAD, FULL, NO, NONE, STATE]"));
        due.is("rule 1: constructors", 1, c.getDeclaredConstructors().length);
        due.holds("rule 11: at most twelve classes", c.getDeclaredClasses().length < 12);
    }

    private static void innerNames() {
        List<String> open = Arrays.asList(FACE.replaceAll("\\([^)]*\\)", "").split(" "));
        for (Class<?> inner : PaidRests.class.getDeclaredClasses()) {
            due.holds("rule 2: static: " + inner, Modifier.isStatic(inner.getModifiers()));
            due.holds("rule 11: fields of " + inner, inner.getDeclaredFields().length <= 20);
            for (Method m : inner.getDeclaredMethods()) {
                due.holds("rule 1: a name of the face: " + m, !open.contains(m.getName()));
                due.holds("rule 11: parameters of " + m, m.getParameterCount() <= 7);
            }
        }
        for (Method m : PaidRests.class.getDeclaredMethods()) {
            boolean isPrivate = Modifier.isPrivate(m.getModifiers());
            due.holds("rule 1: a name of the face: " + m, !isPrivate || !open.contains(m.getName()));
        }
    }

    private static String source() throws Exception {
        return Files.readString(Path.of("src/main/java/PaidRests.java"));
    }

    private static void words() throws Exception {
        String code = source().replaceAll("(?s)/\\*.*?\\*/", "").replaceAll("//[^\n]*", "");
        String[] wrong = {"\\bthrow", "\\btry\\b", "\\bcatch\\b", "\\bsynchronized\\b", "\\bassert\\b", "->", "::", "\\bpackage\\b",
            "\\bprotected\\b", "\\bhashCode\\b", "\\btoString\\b", "Exact\\b", "\\bSystem\\.(?!arraycopy)", "\\bThread\\b",
            "\\bRandom\\b", "\\bObject\\b", "[^\\x00-\\x7f]", "\\bstatic \\{"};
        for (String w : wrong) {
            Matcher m = Pattern.compile(w).matcher(code);
            due.holds("rules 2, 4, 6, 13: " + w, !m.find());
        }
        Matcher imports = Pattern.compile("import ([^;]*);").matcher(code);
        while (imports.find()) {
            due.holds("rule 4: import " + imports.group(1), imports.group(1).equals("java.util.Arrays"));
        }
    }

    /** Each method with its body: from its head to the brace that closes it, which stands just below the head's first letter. */
    private static List<String[]> methods() throws Exception {
        String[] lines = source().replaceAll("//[^\n]*", "").split("\n");
        List<String[]> found = new ArrayList<>();
        for (int i = 0; i < lines.length; i++) {
            Matcher head = Pattern.compile("(\\s+)(?:\\w+(?:\\[\\])? )*(\\w+)\\([^()]*\\) \\{").matcher(lines[i]);
            if (!head.matches() || head.group(2).matches("if|for|while|switch")) {
                continue;
            }
            int end = i;
            while (end < lines.length - 1 && !lines[end].equals(head.group(1) + "}")) {
                end++;
            }
            found.add(new String[] {head.group(2), String.join("\n", Arrays.copyOfRange(lines, i, end + 1))});
        }
        int declared = PaidRests.class.getDeclaredMethods().length;
        for (Class<?> inner : PaidRests.class.getDeclaredClasses()) {
            declared += inner.getDeclaredMethods().length;
        }
        due.holds("all " + declared + " methods were found: " + found.size(), found.size() >= declared);
        return found;
    }

    private static void methodLengths() throws Exception {
        for (String[] method : methods()) {
            int lines = method[1].split("\n").length;
            due.holds("rule 11: " + lines + " lines: " + method[0], lines <= 60);
        }
    }

    /** What divides is a constant, or the same method looks whether it is 0. */
    private static void divisors() throws Exception {
        int found = 0;
        for (String[] method : methods()) {
            Matcher divisor = Pattern.compile("[/%]=? *([^;]*)").matcher(method[1]);
            while (divisor.find()) {
                found++;
                String name = divisor.group(1).replaceAll("^(\\w+).*", "$1");
                boolean constant = name.matches("[A-Z][A-Z_]+|[1-9][0-9]*");
                boolean tested = name.matches("\\w+") && Pattern.compile("\\b" + name + " (> 0|!= 0|== 0)").matcher(method[1]).find();
                due.holds("rule 7: divided by " + divisor.group(1) + " in " + method[0], constant || tested);
            }
        }
        due.holds("divisors were found", found > 0);
    }

    /** Rules 8 and 11: methods of one name are taken for one, so that what is found here is never less than it is. */
    private static void depth() throws Exception {
        Map<String, TreeSet<String>> calls = new TreeMap<>();
        for (String[] method : methods()) {
            calls.computeIfAbsent(method[0], name -> new TreeSet<>());
        }
        for (String[] method : methods()) {
            Matcher call = Pattern.compile("\\b(\\w+)\\(").matcher(method[1].substring(method[1].indexOf('\n') + 1));
            while (call.find()) {
                if (calls.containsKey(call.group(1))) calls.get(method[0]).add(call.group(1));
            }
        }
        for (String name : calls.keySet()) {
            due.holds("rule 11: how deep calls go from " + name, deepest(calls, name, 1) <= 8);
        }
    }

    /** No deeper than nine: so a method that calls itself ends here, too. */
    private static int deepest(Map<String, TreeSet<String>> calls, String name, int level) {
        int most = level;
        for (String next : calls.get(name)) {
            most = level > 8 ? level : Math.max(most, deepest(calls, next, level + 1));
        }
        return most;
    }

    /** Rule 9, as far as it can be seen so: a loop's head compares something with a bound, and its method counts. */
    private static void loops() throws Exception {
        int found = 0;
        for (String[] method : methods()) {
            Matcher loop = Pattern.compile("\\b(?:for|while) \\((.*)\\) \\{").matcher(method[1]);
            while (loop.find()) {
                found++;
                boolean counts = Pattern.compile("\\+\\+|--").matcher(method[1]).find();
                due.holds("rule 9: " + loop.group() + " of " + method[0], counts && loop.group(1).matches(".*[<>]=? \\w.*"));
            }
        }
        due.holds("loops were found", found > 0);
        due.holds("rule 9: no do", !Pattern.compile("\\bdo \\{").matcher(source()).find());
    }

    /** Rule 5. */
    private static void statics() {
        List<Class<?>> all = new ArrayList<>(Arrays.asList(PaidRests.class.getDeclaredClasses()));
        all.add(PaidRests.class);
        for (Class<?> c : all) {
            for (Field f : c.getDeclaredFields()) {
                int is = f.getModifiers();
                due.holds("rule 5: final: " + f, !Modifier.isStatic(is) || Modifier.isFinal(is));
                due.holds("rule 5: a number or a row of them: " + f, !Modifier.isStatic(is)
                    || Arrays.asList("int", "long", "boolean", "char", "int[]", "long[]", "char[]").contains(f.getType().getSimpleName()));
            }
        }
    }

    /** All of an object is made with it: no call makes anything. */
    private static void room() {
        com.sun.management.ThreadMXBean bean = (com.sun.management.ThreadMXBean) ManagementFactory.getThreadMXBean();
        String text = "b12;p1nnnnnnnnnnnn;p1rnrnrnrnrnrn;p2rrnnrrnnrrnn;p3nnnrrrnnnrrr;p4nrrnrrnrrnrr;"
            + "m12 0;m12 1;m12 2;m12 3;m12 4;w60;f30;";
        PaidRests warm = new PaidRests();
        useAll(warm, text.toCharArray());
        long id = Thread.currentThread().getId();
        PaidRests x = new PaidRests();
        char[] letters = text.toCharArray();
        long before = bean.getThreadAllocatedBytes(id);
        useAll(x, letters);
        long taken = bean.getThreadAllocatedBytes(id) - before;
        due.holds("calls took " + taken + " bytes", taken < 2000);
        before = bean.getThreadAllocatedBytes(id);
        new PaidRests();
        long made = bean.getThreadAllocatedBytes(id) - before;
        due.holds("an object took " + made + " bytes", made < 8000);
    }

    private static void useAll(PaidRests x, char[] letters) {
        for (int i = 0; i < letters.length; i++) {
            x.type(letters[i]);
        }
        x.score();
        for (int i = -1; i < 300; i++) {
            callAll(x, i % 13, i % 6, i % 12, i % 2);
        }
    }

    private static void callAll(PaidRests x, int a, int b, int c, int d) {
        x.gives(b, a);
        x.sleeps(b, c, d);
        x.part(b, a);
        x.player(b, a);
        x.coins(b, d);
        x.now(a);
        x.share(b);
        x.costs(b);
        x.exchange();
        x.leftOut(b, d);
        x.bars(b);
        x.heard(c);
        x.rests(c);
        x.first();
        x.noted(c, a);
        x.who();
        x.forget();
        x.broke();
        x.rich(a);
        x.odds(c, a, b, d);
        x.rate(b, a);
        x.keep(d);
        x.evening();
        x.undo();
        x.back(d);
        x.count(a);
        x.trace();
    }

    /** Rule 7: no call throws, whatever it is given; a throw would end this test with an exit code of its own. */
    private static void anyArguments() {
        int[] odd = {Integer.MIN_VALUE, -1000000, -2, -1, 0, 1, 4, 5, 11, 12, 31, 32, 33, 46, 64, 255, 1000000, Integer.MAX_VALUE};
        String[] texts = {"", "b12;p1nnnnnnnnnnnn;m1 0;", "m1 0;m1 0;m1 0;m1 0;m1 0;", "b1;p9n;p9n;p9n;p9n;p9n;"};
        for (String text : texts) {
            PaidRests x = new PaidRests();
            Due.tell(x, text);
            for (int a : odd) {
                for (int b : odd) {
                    for (int c : odd) {
                        callAll(x, a, b, c, a);
                        callAll(x, b, a, c, c);
                        x.odds(a, b, c, 0);
                        x.odds(0, a, b, c);
                        x.sleeps(a, b, c);
                    }
                }
                x.type(a);
            }
            due.is("still the same trace", x.trace(), x.trace());
        }
    }
}
