import java.io.IOException;
import java.lang.reflect.Method;
import java.lang.reflect.Modifier;
import java.nio.file.Files;
import java.nio.file.Path;
import java.util.ArrayList;
import java.util.LinkedHashMap;
import java.util.List;
import java.util.Map;
import java.util.Set;
import java.util.TreeSet;
import java.util.regex.Matcher;
import java.util.regex.Pattern;
import java.util.stream.Stream;

/** README.md: what it says has to hold of the program as it stands. Run at the project's root. */
public final class ReadmeTest {
    private static final Pattern SHOWN = Pattern.compile("(x\\.[^;]+); +// (-?\\d+): .*");
    private static final Pattern ROW = Pattern.compile("\\| `(\\w+)\\(([^)]*)\\)` \\| (.+) \\|(.*)\\|");
    private static final Pattern TEST = Pattern.compile("\\| `(\\w+)` \\| .+ \\|");

    private static final List<String> LINES = lines();
    private static final Map<String, Long> EXAMPLE = example();
    private static final Map<String, String[]> ROWS = rows();
    private static final Set<String> REFUSED = new TreeSet<>();

    private ReadmeTest() {
    }

    public static void main(String[] args) throws IOException {
        examples();
        calls();
        refusals();
        noRefusal();
        tests();
        Check.end();
    }

    private static List<String> lines() {
        try {
            return Files.readAllLines(Path.of("README.md"));
        } catch (IOException e) {
            throw new IllegalStateException(e);
        }
    }

    private static Map<String, Long> example() {
        Map<String, Long> example = new LinkedHashMap<>();
        for (String line : LINES) {
            Matcher shown = SHOWN.matcher(line);
            if (shown.matches()) example.put(shown.group(1), Long.parseLong(shown.group(2)));
        }
        return example;
    }

    /** By the call's name: its parameters, what it answers, its refusals. */
    private static Map<String, String[]> rows() {
        Map<String, String[]> rows = new LinkedHashMap<>();
        for (String line : LINES) {
            Matcher row = ROW.matcher(line);
            if (!row.matches()) continue;
            String refusals = row.group(4).replace("`", "").trim();
            rows.put(row.group(1), new String[] {row.group(2), row.group(3), refusals});
        }
        return rows;
    }

    private static void stands(String line) {
        Check.due("README.md holds: " + line, LINES.contains(line) ? 1 : 0, 1);
    }

    private static void shows(String call, long answer) {
        Long shown = EXAMPLE.remove(call);
        Check.due("README.md shows " + call, shown == null ? 0 : 1, 1);
        if (shown != null) Check.due("README.md's " + call, answer, shown);
    }

    private static void examples() {
        stands("OneDidAll x = new OneDidAll();");
        OneDidAll x = new OneDidAll();
        shows("x.pupil(1, 6, 9, 40)", x.pupil(1, 6, 9, 40));
        shows("x.pupil(2, 3, 2, 10)", x.pupil(2, 3, 2, 10));
        shows("x.pupil(6, 4, 5, 30)", x.pupil(6, 4, 5, 30));
        shows("x.row(2, 1, 7)", x.row(2, 1, 7));
        stands("for (char c : \"goal 99;spur 4 k=1|h>3\".toCharArray()) x.feed(c);");
        for (char c : "goal 99;spur 4 k=1|h>3".toCharArray()) x.feed(c);
        shows("x.school()", x.school());
        shows("x.of(0, 6)", x.of(0, 6));
        shows("x.of(0, 7)", x.of(0, 7));
        shows("x.ready()", x.ready());
        shows("x.image()", x.image());
        shows("x.pass(3)", x.pass(3));
        shows("x.mark(1, 1)", x.mark(1, 1));
        shows("x.on(10, 0)", x.on(10, 0));
        shows("x.team(2, 0)", x.team(2, 0));
        shows("x.part(1, 0)", x.part(1, 0));
        shows("x.part(1, 1)", x.part(1, 1));
        shows("x.mean(10, 0)", x.mean(10, 0));
        shows("x.mean(10, 1)", x.mean(10, 1));
        shows("x.act(2, 2, 5)", x.act(2, 2, 5));
        shows("x.trace(0)", x.trace(0));
        shows("x.undo()", x.undo());
        shows("x.told(1)", x.told(1));
        shows("x.pupil(7, 0, 1, 0)", x.pupil(7, 0, 1, 0));
        shows("x.pupil(0, 0, 0, 0)", x.pupil(0, 0, 0, 0));
        Check.due("calls that README.md shows beside these", EXAMPLE.size(), 0);
    }

    private static void calls() {
        int calls = 0;
        for (Method m : OneDidAll.class.getDeclaredMethods()) {
            if (!Modifier.isPublic(m.getModifiers())) continue;
            calls++;
            String[] row = ROWS.get(m.getName());
            Check.due("README.md has a row for " + m.getName(), row == null ? 0 : 1, 1);
            if (row == null) continue;
            int parameters = row[0].isEmpty() ? 0 : row[0].split(", ").length;
            Check.due("README.md's parameters of " + m.getName(), parameters, m.getParameterCount());
            boolean isLong = m.getReturnType() == long.class;
            Check.due("README.md's NO of " + m.getName(), row[2].equals("NO") ? 1 : 0, isLong ? 1 : 0);
        }
        Check.due("calls of the face", calls, 34);
        Check.due("README.md's rows of calls", ROWS.size(), calls);
    }

    /** The refusals of a call in the order of its row, and an answer for each of them. */
    private static void refused(String call, String names, long... answers) {
        String[] row = ROWS.getOrDefault(call, new String[] {"", "", "no row"});
        Check.due("README.md: " + call + " is refused by " + row[2] + " for " + names, row[2].equals(names) ? 1 : 0, 1);
        String[] each = names.isEmpty() ? new String[0] : names.split(" ");
        Check.due("refusals of " + call, answers.length, each.length);
        for (int i = 0; i < each.length && i < answers.length; i++) {
            Check.due(call + ", refused by " + each[i], answers[i], number(each[i]));
        }
        REFUSED.add(call);
    }

    private static long number(String name) {
        switch (name) {
            case "NONE": return OneDidAll.NONE;
            case "BAD": return OneDidAll.BAD;
            case "STATE": return OneDidAll.STATE;
            case "FULL": return OneDidAll.FULL;
            default: return OneDidAll.NO;
        }
    }

    private static void refusals() {
        OneDidAll full = Rooms.full();
        OneDidAll late = Rooms.late(0);
        refused("feed", "BAD FULL", full.feed(128), full.feed(1));
        refused("school", "FULL", full.school());
        refused("pupil", "NONE BAD FULL", full.pupil(7, 0, 1, 0), full.pupil(0, 10, 1, 0), full.pupil(0, 0, 1, 0));
        refused("of", "NONE", full.of(0, 10));
        refused("row", "NONE BAD STATE", full.row(0, 4, 0), full.row(0, 0, 10), full.row(1, 0, 0));
        refused("will", "NONE BAD", full.will(6, 0), full.will(0, 100));
        refused("out", "NONE", full.out(6, true));
        refused("told", "NONE", full.told(7));
        refused("mark", "NONE", full.mark(0, 4));
        refused("pass", "BAD STATE", late.pass(61), late.pass(1));
        refused("on", "NONE BAD", full.on(1, 2), full.on(61, 0));
        refused("spread", "NONE", full.spread(4));
        refused("alone", "NONE", full.alone(6));
        refused("team", "NONE BAD", full.team(1, 2), full.team(7, 0));
        refused("split", "NONE", full.split(2));
        refused("part", "NO", full.part(0, 2));
        refused("see", "BAD FULL", full.see(1, 21), full.see(1, 1));
        refused("skilled", "NONE", full.skilled(0, 2));
        refused("firm", "NONE", full.firm(0, 2));
        refused("odds", "NO", full.odds(61, 0, 0));
        refused("mean", "NO", full.mean(61, 0));
        refused("plan", "NONE FULL", full.plan(4, 0), full.plan(0, 0));
        refused("done", "NONE", full.done(2));
        refused("book", "NONE BAD FULL", full.book(6, 0), full.book(0, 10000), full.book(0, 0));
        refused("trace", "NONE", full.trace(20));
        refused("as", "NONE", full.as(0, 7));
        refused("undo", "STATE", late.undo());
        refused("count", "NONE", full.count(7));
    }

    private static void noRefusal() {
        for (String call : new String[] {"ready", "nearest", "throwOut", "looked", "act", "image"}) refused(call, "");
        Check.due("calls whose refusals were looked at", REFUSED.size(), ROWS.size());
        OneDidAll x = Rooms.plain(1);
        x.act(0, 2, 5);
        Check.due("bodies of an act that README.md calls refused", x.act(1, 2, 5) + x.count(6), 0);
    }

    private static void tests() throws IOException {
        Set<String> named = new TreeSet<>();
        for (String line : LINES) {
            Matcher test = TEST.matcher(line);
            if (test.matches()) named.add(test.group(1));
        }
        List<String> standing = new ArrayList<>();
        try (Stream<Path> files = Files.list(Path.of("src/test/java"))) {
            files.map(f -> f.getFileName().toString()).filter(f -> f.endsWith("Test.java"))
                .forEach(f -> standing.add(f.substring(0, f.length() - ".java".length())));
        }
        Check.due("README.md's tests " + named + " are " + standing, named.equals(new TreeSet<>(standing)) ? 1 : 0, 1);
    }
}
