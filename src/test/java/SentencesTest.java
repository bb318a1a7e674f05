import java.io.IOException;
import java.nio.file.Files;
import java.nio.file.Path;
import java.util.ArrayList;
import java.util.BitSet;
import java.util.LinkedHashMap;
import java.util.List;
import java.util.Map;
import java.util.regex.Matcher;
import java.util.regex.Pattern;
import java.util.stream.Stream;

/** Each sentence that a test names stands in the document, and no sentence of it is without a test that names it. */
public final class SentencesTest {
    private static final Path DOCUMENT = Path.of("../shared/DOC.md");
    private static final Path TESTS = Path.of("src/test/java");
    private static final String LITERAL = "\"((?:[^\"\\\\]|\\\\.)*)\"";
    private static final Pattern NAMED = Pattern.compile(
        "check\\.sentence\\(\\s*" + LITERAL + "\\s*,\\s*(" + LITERAL + "(?:\\s*\\+\\s*" + LITERAL + ")*)\\s*\\)");
    private static final Check check = new Check("SentencesTest");

    /** A sentence as a test names it. */
    private record Named(String test, String where, String words) {
    }

    public static void main(String[] args) throws IOException {
        if (!Files.isReadable(DOCUMENT)) {
            System.out.println("SentencesTest: there is no " + DOCUMENT + " to look into");
            return;
        }
        Map<String, String> sections = sections();
        List<Named> named = named();
        for (Named each : named) {
            String section = sections.getOrDefault(sectionOf(each.where), "");
            check.same(each.test + " names a sentence of " + each.where + ": " + each.words,
                section.contains(each.words) ? 1 : 0, 1);
        }
        for (Map.Entry<String, String> section : sections.entrySet()) {
            check.same("sentences of " + section.getKey() + " that no test names",
                unnamed(section.getKey(), section.getValue(), named), "");
        }
        check.end();
    }

    /** Terms 1 to 4 are parts of one section; a test may name the term. */
    private static String sectionOf(String where) {
        return where.startsWith("Terms") ? "Terms" : where;
    }

    /** The sections that promise something, each without line ends, fences and its own call. */
    private static Map<String, String> sections() throws IOException {
        Map<String, String> sections = new LinkedHashMap<>();
        for (String part : Files.readString(DOCUMENT).split("(?m)^## ")) {
            String title = part.substring(0, part.indexOf('\n')).replaceFirst("^(Promise \\d+): .*", "$1");
            String words = part.substring(part.indexOf('\n')).replaceAll("```\\w*", " ");
            if (title.startsWith("Promise")) {
                sections.put(title, flat(words).replaceFirst("^`[^`]*`: ", ""));
            } else if (title.equals("Terms")) {
                sections.put(title, flat(words.replaceFirst("\\s*Its calls: .*", "")
                    .replaceAll("(?m)^Ahead of the calls .* the interface says: .*$", "")
                    .replaceAll("(?m)^[1-4] ", " ")) + " what would be (nothing is changed)");
            } else if (title.equals("What it is")) {
                sections.put(title, flat(words).replaceFirst("An importer of tables\\. ", ""));
            }
        }
        check.same("the document has sections", sections.isEmpty() ? 1 : 0, 0);
        return sections;
    }

    private static String flat(String words) {
        return words.replaceAll("\\s+", " ").trim();
    }

    private static List<Named> named() throws IOException {
        List<Named> named = new ArrayList<>();
        List<Path> tests;
        try (Stream<Path> files = Files.list(TESTS)) {
            tests = files.filter(file -> file.toString().endsWith("BoundsTest.java")).sorted().toList();
        }
        for (Path test : tests) {
            String source = Files.readString(test);
            Matcher call = NAMED.matcher(source);
            int found = 0;
            while (call.find()) {
                named.add(new Named(test.getFileName().toString(), call.group(1), joined(call.group(2))));
                found++;
            }
            int calls = source.split("check\\.sentence\\(", -1).length - 1;
            check.same("sentences that are written out in " + test, found, calls);
        }
        return named;
    }

    private static String joined(String literals) {
        StringBuilder words = new StringBuilder();
        Matcher literal = Pattern.compile(LITERAL).matcher(literals);
        while (literal.find()) {
            words.append(literal.group(1));
        }
        return words.toString();
    }

    /** What is left of a section when all that tests name is taken out of it. */
    private static String unnamed(String title, String section, List<Named> named) {
        BitSet taken = new BitSet();
        for (Named each : named) {
            int from = sectionOf(each.where).equals(title) ? section.indexOf(each.words) : -1;
            for (; from >= 0; from = section.indexOf(each.words, from + 1)) {
                taken.set(from, from + each.words.length());
            }
        }
        StringBuilder left = new StringBuilder();
        for (int i = 0; i < section.length(); i++) {
            left.append(taken.get(i) ? ' ' : section.charAt(i));
        }
        String words = flat(left.toString());
        return words.matches("[^\\p{L}]*") ? "" : words;
    }
}
