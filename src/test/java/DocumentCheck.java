import java.io.IOException;
import java.nio.file.Files;
import java.nio.file.Path;
import java.util.ArrayList;
import java.util.LinkedHashMap;
import java.util.List;
import java.util.Map;

/** Holds the boundary tests against the document: each quotes what stands there, and no boundary is without a test. */
final class DocumentCheck {
    private static final int PROMISES = 55;

    private DocumentCheck() {
    }

    static void run(String path) {
        Map<String, List<String>> places = read(path);
        quotesStandThere(places);
        termsAreQuoted(places.getOrDefault(Boundaries.TERMS, List.of()));
        for (int number = 1; number <= PROMISES; number++) {
            String place = "Promise " + number;
            promiseIsQuoted(place, places.getOrDefault(place, List.of()));
        }
    }

    /** The lines under each heading, by what the heading says before its colon. */
    private static Map<String, List<String>> read(String path) {
        Map<String, List<String>> places = new LinkedHashMap<>();
        List<String> lines = new ArrayList<>();
        try {
            for (String line : Files.readAllLines(Path.of(path))) {
                if (line.startsWith("## ")) {
                    lines = new ArrayList<>();
                    places.put(line.substring(3).split(":")[0], lines);
                } else {
                    lines.add(line.strip());
                }
            }
        } catch (IOException unreadable) {
            Checks.dueText("the document", "readable", unreadable.toString());
        }
        return places;
    }

    private static void quotesStandThere(Map<String, List<String>> places) {
        for (Boundaries.Quote quote : Boundaries.quotes()) {
            List<String> lines = places.getOrDefault(quote.place(), List.of());
            boolean stands = lines.stream().anyMatch(line -> line.contains(quote.sentence()));
            Checks.dueTrue(quote.place() + " says \"" + quote.sentence() + "\"", stands);
        }
    }

    private static boolean isQuoted(String place, String part) {
        return Boundaries.quotes().stream().anyMatch(quote -> quote.place().equals(place)
            && (quote.sentence().contains(part) || part.contains(quote.sentence())));
    }

    // Headwords such as "Shelves." and the list of the interface's groups say nothing to test.
    private static void termsAreQuoted(List<String> lines) {
        for (String line : lines) {
            if (line.startsWith("Ahead of the calls") || line.startsWith("```")) {
                continue;
            }
            for (String part : line.replaceAll(":$", "").split("(?<=[.;]) ")) {
                boolean headword = part.matches("[A-Z]\\w*( \\w+)?\\.") || part.isEmpty();
                Checks.dueTrue("a test quotes of the terms: " + part, headword || isQuoted(Boundaries.TERMS, part));
            }
        }
    }

    private static void promiseIsQuoted(String place, List<String> lines) {
        boolean any = Boundaries.quotes().stream().anyMatch(quote -> quote.place().equals(place));
        Checks.dueTrue("a test quotes " + place, any);
        for (String line : lines) {
            boolean range = line.matches("- `\\w+`: .*(\\d|possibly|any).*");
            if (range || line.startsWith("Throws ")) {
                Checks.dueTrue("a test quotes of " + place + ": " + line, isQuoted(place, line));
            }
        }
    }
}
