import java.io.IOException;
import java.nio.file.Files;
import java.nio.file.Path;
import java.util.ArrayList;
import java.util.LinkedHashMap;
import java.util.List;
import java.util.Map;
import java.util.TreeSet;
import java.util.regex.Matcher;
import java.util.regex.Pattern;
import java.util.stream.Stream;

/**
 * Each sentence of the document's terms and promises is named by a test (by Check.sentence), in words that stand
 * in the document.
 */
public final class EverySentenceTest {
    private static final Check CHECK = new Check("EverySentenceTest");
    private static final Path DOCUMENT = Path.of("../shared/DOC.md");
    private static final String LITERAL = "\"(?:[^\"\\\\]|\\\\.)*\"";
    private static final Pattern SENTENCE = Pattern.compile(
            "CHECK\\.sentence\\(\\s*(" + LITERAL + "),\\s*(" + LITERAL + "(?:\\s*\\+\\s*" + LITERAL + ")*)\\)");
    private static final Pattern HEADING = Pattern.compile("## ([^:]*).*|([A-Z][A-Z ]+)");
    /** What no test can look at: a method's head, remarks on the face and on the list of constants, marks. */
    private static final String NOT_TO_TEST =
            "`[a-zA-Z ]*[a-zA-Z]+\\([^`]*\\)`:|Ahead of the calls [^:]*:[^.]*\\.|The constants:|[-;,.: ]+";

    public static void main(String[] args) throws IOException {
        if (Files.isReadable(DOCUMENT)) {
            lookUp(sections(Files.readAllLines(DOCUMENT)), sentencesOfTests());
        } else {
            System.out.println("EverySentenceTest: there is no " + DOCUMENT);
        }
        CHECK.end();
    }

    /** The document's sections from the terms on, each as one line. */
    private static Map<String, String> sections(List<String> lines) {
        Map<String, String> found = new LinkedHashMap<>();
        String section = "";
        for (String line : lines) {
            Matcher heading = HEADING.matcher(line);
            if (heading.matches()) {
                section = heading.group(1) != null ? heading.group(1) : heading.group(2);
            } else if (!line.startsWith("```")) {
                found.merge(section, line.trim(), (before, more) -> (before + " " + more).trim());
            }
        }
        return found;
    }

    /** Pairs of a section and words of it. */
    private static List<String[]> sentencesOfTests() throws IOException {
        List<String[]> found = new ArrayList<>();
        try (Stream<Path> tests = Files.list(Path.of("src/test/java"))) {
            for (Path test : tests.sorted().toList()) {
                Matcher named = SENTENCE.matcher(Files.readString(test));
                while (named.find()) {
                    found.add(new String[] {joined(named.group(1)), joined(named.group(2))});
                }
            }
        }
        return found;
    }

    private static String joined(String literals) {
        StringBuilder whole = new StringBuilder();
        Matcher literal = Pattern.compile(LITERAL).matcher(literals);
        while (literal.find()) {
            whole.append(literal.group(), 1, literal.group().length() - 1);
        }
        return whole.toString().replace("\\\"", "\"");
    }

    private static void lookUp(Map<String, String> sections, List<String[]> sentences) {
        for (String[] sentence : sentences) {
            String text = sections.getOrDefault(sentence[0], "");
            CHECK.due(sentence[0] + " has the words: " + sentence[1], text.contains(sentence[1]) ? 1 : 0, 1);
        }
        for (String section : sections.keySet()) {
            if (section.startsWith("Promise ") || !section.isEmpty() && section.equals(section.toUpperCase())) {
                nothingIsLeft(section, sections.get(section), sentences);
            }
        }
        int promises = 0;
        for (String section : sections.keySet()) {
            promises += section.startsWith("Promise ") ? 1 : 0;
        }
        CHECK.due("promises of the document", promises, 29);
        CHECK.due("terms of the document", new TreeSet<>(sections.keySet()).containsAll(List.of("THE MAP", "MEMBERS",
                "PATROLS AND GARAGES", "CALLS", "SENDING", "A MINUTE PASSES", "TOWING", "MONEY", "TEXTS", "HISTORY",
                "ERRORS")) ? 1 : 0, 1);
    }

    private static void nothingIsLeft(String section, String text, List<String[]> sentences) {
        boolean[] named = new boolean[text.length()];
        for (String[] sentence : sentences) {
            int at = sentence[0].equals(section) ? text.indexOf(sentence[1]) : -1;
            while (at >= 0) {
                for (int i = 0; i < sentence[1].length(); i++) {
                    named[at + i] = true;
                }
                at = text.indexOf(sentence[1], at + 1);
            }
        }
        StringBuilder left = new StringBuilder();
        for (int i = 0; i < text.length(); i++) {
            left.append(named[i] ? '.' : text.charAt(i));
        }
        String words = left.toString().replaceAll(NOT_TO_TEST, " ").trim();
        CHECK.due(section + ": words that no test names: '" + words + "'", words.length(), 0);
    }
}
