import java.io.IOException;
import java.nio.file.Files;
import java.nio.file.Path;
import java.util.ArrayList;
import java.util.LinkedHashMap;
import java.util.List;
import java.util.Map;
import java.util.regex.Matcher;
import java.util.regex.Pattern;

/**
 * Holds the boundary tests against the document: each quotes what stands there, and no boundary is without a test.
 * Holds the source against the document's face too, parameter by parameter and group by group.
 */
final class DocumentCheck {
    private static final int PROMISES = 55;
    private static final String HEADING = "    // ---- ";
    private static final Pattern CALL = Pattern.compile("`(\\w+)`");
    private static final Pattern METHOD = Pattern.compile("^    public \\w+ (\\w+)\\(");

    private DocumentCheck() {
    }

    static void run(String path, String sourcePath) {
        Map<String, List<String>> places = read(path);
        List<String> source = readLines(sourcePath);
        faceStandsInSource(places.getOrDefault("The public face", List.of()), source);
        Checks.dueText("the groups of the interface",
            groupsOfDocument(places.getOrDefault(Boundaries.TERMS, List.of())), groupsOfSource(source));
        quotesStandThere(places);
        termsAreQuoted(places.getOrDefault(Boundaries.TERMS, List.of()));
        for (int number = 1; number <= PROMISES; number++) {
            String place = "Promise " + number;
            promiseIsQuoted(place, places.getOrDefault(place, List.of()));
        }
    }

    /** The lines under each heading, by what the heading says before its colon. */
    private static Map<String, List<String>> read(String path) {
        Map<String, List<String>> places = new LinkedHashMap<>();
        List<String> lines = new ArrayList<>();
        for (String line : readLines(path)) {
            if (line.startsWith("## ")) {
                lines = new ArrayList<>();
                places.put(line.substring(3).split(":")[0], lines);
            } else {
                lines.add(line.strip());
            }
        }
        return places;
    }

    private static List<String> readLines(String path) {
        try {
            return Files.readAllLines(Path.of(path));
        } catch (IOException unreadable) {
            Checks.dueText(path, "readable", unreadable.toString());
            return List.of();
        }
    }

    private static void faceStandsInSource(List<String> face, List<String> source) {
        String words = String.join(" ", source).replaceAll("\\s+", " ");
        int declared = 0;
        for (String line : face) {
            if (line.startsWith("public ")) {
                String due = line.replaceAll(";$", " {");
                Checks.dueTrue("the source says " + due, words.contains(due));
                declared++;
            }
        }
        int lines = declared;
        Checks.due("the class, its constructor and its methods", PROMISES + 1, () -> lines);
    }

    private static String groupsOfDocument(List<String> terms) {
        StringBuilder groups = new StringBuilder();
        for (String line : terms) {
            if (line.startsWith("Ahead of the calls ")) {
                groups.append('\n').append(line.replaceAll(".* says: (.*)\\.$", "$1"));
                Matcher call = CALL.matcher(line);
                while (call.find()) {
                    groups.append(' ').append(call.group(1));
                }
            }
        }
        return groups.toString();
    }

    /** The public methods behind each of the source's headings, in their order; a heading without any is left out. */
    private static String groupsOfSource(List<String> source) {
        StringBuilder groups = new StringBuilder();
        String heading = "";
        for (String line : source) {
            Matcher method = METHOD.matcher(line);
            if (line.startsWith(HEADING)) {
                heading = "\n" + line.strip().substring("// ".length());
            } else if (method.find()) {
                groups.append(heading).append(' ').append(method.group(1));
                heading = "";
            }
        }
        return groups.toString();
    }

    private static void quotesStandThere(Map<String, List<String>> places) {
        for (Boundaries.Quote quote : Boundaries.quotes()) {
            List<String> lines = places.getOrDefault(quote.place(), List.of());
            boolean stands = lines.stream().anyMatch(line -> line.contains(quote.sentence()));
            Checks.dueTrue(quote.place() + " says \"" + quote.sentence() + "\"", stands);
        }
    }

    private static boolean isQuoted(String place, String part) {
        return Boundaries.quotes().stream().anyMatch(quote -> quote.place().equals(place)
            && (quote.sentence().contains(part) || part.contains(quote.sentence())));
    }

    // Headwords such as "Shelves." and the list of the interface's groups say nothing to test.
    private static void termsAreQuoted(List<String> lines) {
        for (String line : lines) {
            if (line.startsWith("Ahead of the calls") || line.startsWith("```")) {
                continue;
            }
            for (String part : line.replaceAll(":$", "").split("(?<=[.;]) ")) {
                boolean headword = part.matches("[A-Z]\\w*( \\w+)?\\.") || part.isEmpty();
                Checks.dueTrue("a test quotes of the terms: " + part, headword || isQuoted(Boundaries.TERMS, part));
            }
        }
    }

    private static void promiseIsQuoted(String place, List<String> lines) {
        boolean any = Boundaries.quotes().stream().anyMatch(quote -> quote.place().equals(place));
        Checks.dueTrue("a test quotes " + place, any);
        for (String line : lines) {
            boolean range = line.matches("- `\\w+`: .*(\\d|possibly|any).*");
            if (range || line.startsWith("Throws ")) {
                Checks.dueTrue("a test quotes of " + place + ": " + line, isQuoted(place, line));
            }
        }
    }
}
