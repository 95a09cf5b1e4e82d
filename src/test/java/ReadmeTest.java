import java.io.IOException;
import java.lang.reflect.Method;
import java.lang.reflect.Modifier;
import java.util.ArrayList;
import java.util.Arrays;
import java.util.List;
import java.util.Map;
import java.util.Set;
import java.util.TreeMap;
import java.util.TreeSet;
import java.util.function.Supplier;
import java.util.regex.Matcher;
import java.util.regex.Pattern;

/** What README.md says of the use of the class. */
public final class ReadmeTest {
    private static final Due due = new Due("ReadmeTest");
    private static final Pattern TABLE = Pattern.compile("HexTable \\w+ = new HexTable\\(\\d+\\); +// .+");
    private static final Pattern CALL = Pattern.compile("(\\S.*\\)); +// (true|false|-?\\d+)(: .+)?");
    /** Of a row of the table of calls: the name and what stands between the brackets. */
    private static final Pattern ROW = Pattern.compile("`(\\w+)\\((.*)\\)`");

    /** Together with the calls that made its state an object stays below 512. */
    private static final int CALLS_OF_ONE = 300;

    private static Readme readme;
    /** What the README says is answered, by the number of the line. */
    private static final Map<Integer, String> answers = new TreeMap<>();
    private static final Map<Integer, String> calls = new TreeMap<>();

    public static void main(String[] args) throws Exception {
        readme = Readme.read();
        examples();
        everyCallHasAnExample();
        everyFaultHasAnExample();
        tableOfCalls();
        noCallThrows();
        sentences();
        partsOfTheClass();
        due.end();
    }

    /** The program that the commands of the section "Use" compile and run is made of the examples. */
    private static void examples() throws IOException, InterruptedException {
        String program = programOfExamples();
        String commands = readme.blocks("sh").get(0).text();
        due.is("the commands are about Mine", commands.contains("Mine.java"), true);
        Folder.Ran ran;
        try (Folder folder = Folder.make()) {
            folder.copy("src/main/java/HexTable.java", "src/main/java/HexTable.java");
            folder.write("Mine.java", program);
            ran = folder.run("", commands);
        }
        due.is("exit code of the examples " + ran.lines(), ran.code(), 0);
        Map<Integer, String> got = new TreeMap<>();
        for (String line : ran.lines()) {
            String[] words = line.split(" ");
            got.put(words[0].matches("\\d+") ? Integer.parseInt(words[0]) : 0, words[words.length - 1]);
        }
        answers.forEach((line, want) ->
            due.is("line " + line + ", " + calls.get(line), String.valueOf(got.get(line)), want));
        due.is("calls of the examples", got.size(), answers.size());
    }

    private static String programOfExamples() {
        StringBuilder methods = new StringBuilder();
        StringBuilder main = new StringBuilder();
        List<Readme.Block> blocks = readme.blocks("java");
        for (int k = 0; k < blocks.size(); k++) {
            main.append("example").append(k).append("(); ");
            methods.append("static void example").append(k).append("() {\n");
            methods.append(statements(blocks.get(k))).append("}\n");
        }
        return "final class Mine {\n"
            + "static void tell(int line, Object answer) { System.out.println(line + \" \" + answer); }\n"
            + methods + "public static void main(String[] args) { " + main + "}\n}\n";
    }

    /** A line as it stands, but that its answer is printed with the line's number. */
    private static String statements(Readme.Block block) {
        StringBuilder text = new StringBuilder();
        for (int k = 0; k < block.lines().size(); k++) {
            int number = block.firstLine() + k;
            String line = block.lines().get(k);
            Matcher call = CALL.matcher(line);
            if (TABLE.matcher(line).matches()) {
                text.append(line).append('\n');
            } else if (call.matches()) {
                text.append("tell(").append(number).append(", ").append(call.group(1)).append(");\n");
                calls.put(number, call.group(1));
                answers.put(number, call.group(2));
            } else {
                due.is("line " + number + " is a table or a call with its answer: " + line, false, true);
            }
        }
        return text.toString();
    }

    private static boolean hasExample(String words) {
        return calls.values().stream().anyMatch(call -> call.contains(words));
    }

    private static void everyCallHasAnExample() {
        for (String name : face()) {
            due.is("an example of " + name, hasExample("." + name + "("), true);
        }
        due.is("an example with NONE", hasExample("HexTable.NONE"), true);
    }

    private static Set<String> face() {
        Set<String> names = new TreeSet<>();
        for (Method m : HexTable.class.getDeclaredMethods()) {
            if (Modifier.isPublic(m.getModifiers())) {
                names.add(m.getName());
            }
        }
        return names;
    }

    /** The faults of the table, and no others, are those that the examples of check answer. */
    private static void everyFaultHasAnExample() {
        Set<String> listed = new TreeSet<>();
        readme.rows("fault").forEach(row -> listed.add(row.get(0)));
        Set<String> shown = new TreeSet<>();
        calls.forEach((line, call) -> {
            int answer = call.contains(".check(") ? Integer.parseInt(answers.get(line)) : 0;
            if (answer > 0) {
                shown.add(String.valueOf(answer % 16));
            }
        });
        due.is("faults", String.valueOf(shown), "[1, 2, 3, 4, 5]");
        due.is("faults of the table", String.valueOf(listed), String.valueOf(shown));
    }

    private static void tableOfCalls() throws ReflectiveOperationException {
        told("A call that is refused changes nothing, and answers as the last column says.");
        Set<String> listed = new TreeSet<>();
        for (List<String> row : readme.rows("call")) {
            Matcher parts = ROW.matcher(row.get(0));
            due.is("a row of calls: " + row, parts.matches() && row.size() == 4, true);
            String name = parts.group(1);
            String[] given = parts.group(2).isEmpty() ? new String[0] : parts.group(2).split(", ");
            due.is(name + " has one row", listed.add(name), true);
            Method method = methodOf(name);
            due.is(name + " takes so many", given.length, method.getParameterCount());
            refused(method, Readme.plain(row.get(3)));
            kinds(method, given, row);
        }
        due.is("calls of the table", String.valueOf(listed), String.valueOf(face()));
    }

    private static Method methodOf(String name) {
        for (Method m : HexTable.class.getDeclaredMethods()) {
            if (m.getName().equals(name) && Modifier.isPublic(m.getModifiers())) {
                return m;
            }
        }
        throw new IllegalStateException("the class has no " + name);
    }

    /** With numbers that are never good, in every state; a call without numbers on a new object. */
    private static void refused(Method method, String want) throws ReflectiveOperationException {
        Object[] wrong = new Object[method.getParameterCount()];
        Arrays.fill(wrong, Integer.MIN_VALUE);
        if (wrong.length == 0) {
            String answer = String.valueOf(method.invoke(new HexTable(3)));
            due.is(method.getName() + " on a new object", answer, want.equals("never") ? "0" : want);
            return;
        }
        for (var state : Given.states().entrySet()) {
            String name = method.getName() + " refused, " + state.getKey();
            due.is(name, String.valueOf(method.invoke(state.getValue().get(), wrong)), want);
        }
        new Twins(due).unchangedInEveryState(method.getName() + " refused", x -> call(method, x, wrong));
    }

    private static Object call(Method method, HexTable x, Object... numbers) {
        try {
            return method.invoke(x, numbers);
        } catch (ReflectiveOperationException e) {
            throw new IllegalStateException(e);
        }
    }

    /** Where a call is asked for one of several kinds, each that the row tells has an example, and there are no others. */
    private static void kinds(Method method, String[] given, List<String> row) {
        if (given.length == 0 || !given[given.length - 1].equals("what")) {
            return;
        }
        String name = method.getName();
        String[] told = row.get(2).split(", ");
        for (int kind = 0; kind < told.length; kind++) {
            due.is(name + " tells kind " + kind, told[kind].startsWith(kind + " "), true);
            String end = given.length == 1 ? "(" + kind + ")" : ", " + kind + ")";
            boolean shown = calls.values().stream()
                .anyMatch(call -> call.contains("." + name + "(") && call.endsWith(end));
            due.is("an example of " + name + " for kind " + kind, shown, true);
        }
        Object[] numbers = given.length == 1 ? new Object[] {told.length} : new Object[] {0, told.length};
        HexTable busy = Given.busy(1, 0, 3, 2);
        busy.set(1, 0, 2);
        due.is(name + " of kind " + told.length, String.valueOf(call(method, busy, numbers)), Readme.plain(row.get(3)));
    }

    private static void noCallThrows() {
        told("No call throws, whatever it is given.");
        for (String name : face()) {
            Method method = methodOf(name);
            for (var state : Given.states().entrySet()) {
                due.is(name + " thrown, " + state.getKey(), timesThrown(method, state.getValue()), 0);
            }
        }
    }

    private static int timesThrown(Method method, Supplier<HexTable> made) {
        int[] numbers = {Integer.MIN_VALUE, -3, -1, 0, 1, 2, 3, 8000, Integer.MAX_VALUE};
        int count = method.getParameterCount();
        int ways = (int) Math.pow(numbers.length, count);
        int thrown = 0;
        HexTable x = made.get();
        for (int way = 0; way < ways; way++) {
            Object[] given = new Object[count];
            for (int k = 0, rest = way; k < count; k++, rest /= numbers.length) {
                given[k] = numbers[rest % numbers.length];
            }
            x = way % CALLS_OF_ONE == 0 ? made.get() : x;
            try {
                method.invoke(x, given);
            } catch (ReflectiveOperationException e) {
                thrown++;
            }
        }
        return thrown;
    }

    private static void told(String sentence) {
        due.by("README.md: " + sentence);
        due.is("the README has this sentence", readme.says(sentence), true);
    }

    private static void sentences() {
        told("`HexTable.NONE` is -1; `step` and `strategy` refuse with `NONE - 2`.");
        due.is("NONE", HexTable.NONE, -1);
        due.is("step", new HexTable(1).step(0, 0), HexTable.NONE - 2);
        due.is("strategy", new HexTable(1).strategy(0, 0), HexTable.NONE - 2);
        told("its number is SIZE * y + x.");
        for (int size = 1; size <= 11; size++) {
            HexTable x = new HexTable(size);
            x.play(size - 1, size / 2);
            due.is("size " + size, x.undo(), size * (size / 2) + size - 1);
        }
        told("Side 1 joins line 0 with the last one, side 2 column 0 with the last one.");
        for (int side = 1; side <= 2; side++) {
            HexTable x = new HexTable(11);
            for (int k = 0; k < 11; k++) {
                due.is("side " + side + " with " + k, x.about(3), 0);
                x.set(side == 1 ? 4 : k, side == 1 ? k : 4, side);
            }
            due.is("side " + side + " with all", x.about(3), side);
        }
        told("The search is for the side whose TURN it is, with a budget of 1 to 8000 nodes.");
        for (int side = 1; side <= 2; side++) {
            HexTable x = new HexTable(2);
            x.turn(side);
            int[] budgets = {0, 1, 8000, 8001};
            int[] found = {-1, 0, side, -1};
            for (int k = 0; k < budgets.length; k++) {
                due.is("search(" + budgets[k] + ") of side " + side, x.search(budgets[k]), found[k]);
            }
        }
        childrenWithoutGap();
    }

    private static void childrenWithoutGap() {
        told("The children of a node have numbers without a gap, from the first one on.");
        HexTable x = new HexTable(3);
        x.search(60);
        for (int i = 0; i < x.about(6); i++) {
            int first = x.node(i, 4);
            for (int k = 0; k < x.node(i, 5); k++) {
                due.is("node " + (first + k) + " is made from", x.node(first + k, 1), i);
            }
        }
    }

    /** The classes that "How it is made" tells of are those that there are. */
    private static void partsOfTheClass() {
        due.by("README.md: How it is made");
        List<String> names = new ArrayList<>();
        for (Class<?> inside : HexTable.class.getDeclaredClasses()) {
            names.add(inside.getSimpleName());
            due.is("it tells of " + inside.getSimpleName(), readme.says("`" + inside.getSimpleName() + "`"), true);
        }
        due.is("classes " + names, names.size(), 6);
    }
}
