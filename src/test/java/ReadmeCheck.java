import java.io.IOException;
import java.lang.reflect.Method;
import java.lang.reflect.Modifier;
import java.nio.file.Files;
import java.nio.file.Path;
import java.util.ArrayList;
import java.util.List;
import java.util.regex.MatchResult;
import java.util.regex.Matcher;
import java.util.regex.Pattern;

/** The README names every call, and its commands do what the calls beside them do; .ci/run looks at its example. */
final class ReadmeCheck {
    private static final Pattern COMMAND = Pattern.compile("([a-z]+ [0-9 -]*[0-9]) {2,}([a-zA-Z]+)\\(([^)]*)\\)");
    private static final int COMMANDS = 11;

    private ReadmeCheck() {
    }

    static void run(String path) {
        String page;
        try {
            page = Files.readString(Path.of(path));
        } catch (IOException unreadable) {
            Checks.dueText("the README", "readable", unreadable.toString());
            return;
        }
        namesEveryCall(page);
        commandsDoAsTheirCalls(page);
    }

    private static void namesEveryCall(String page) {
        for (Method method : LarderPatrol.class.getDeclaredMethods()) {
            if (Modifier.isPublic(method.getModifiers())) {
                Checks.dueTrue("the README names " + method.getName(), page.contains("`" + method.getName() + "`"));
            }
        }
    }

    private static void commandsDoAsTheirCalls(String page) {
        List<MatchResult> rows = new ArrayList<>();
        Matcher row = COMMAND.matcher(page);
        while (row.find()) {
            rows.add(row.toMatchResult());
        }
        Checks.due("the README's commands", COMMANDS, rows::size);
        for (int count = 1; count <= rows.size(); count++) {
            dueAlike(rows.subList(0, count));
        }
    }

    /** The rows on two new larders, one by texts and one by calls; none of the rows may fail. */
    private static void dueAlike(List<MatchResult> rows) {
        LarderPatrol byTexts = Larders.withCheese(5, 5);
        LarderPatrol byCalls = Larders.withCheese(5, 5);
        for (MatchResult row : rows) {
            Checks.due("the README's command " + row.group(1), 1, () -> Larders.execute(byTexts, row.group(1)));
            Checks.dueText("the README's call beside " + row.group(1), "done", call(byCalls, row.group(2), row.group(3)));
        }
        String last = rows.get(rows.size() - 1).group(1);
        Checks.dueText("both after " + last, Boundaries.picture(byCalls), Boundaries.picture(byTexts));
    }

    private static String call(LarderPatrol x, String name, String arguments) {
        String[] words = arguments.split(", ");
        Object[] values = new Object[words.length];
        Class<?>[] types = new Class<?>[words.length];
        for (int index = 0; index < words.length; index++) {
            boolean isNumber = Character.isDigit(words[index].charAt(0));
            types[index] = isNumber ? int.class : boolean.class;
            values[index] = isNumber ? (Object) Integer.valueOf(words[index]) : Boolean.valueOf(words[index]);
        }
        try {
            LarderPatrol.class.getMethod(name, types).invoke(x, values);
            return "done";
        } catch (ReflectiveOperationException failed) {
            return failed.toString();
        }
    }
}
