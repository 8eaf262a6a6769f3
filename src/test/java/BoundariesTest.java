import java.nio.file.Files;
import java.nio.file.Path;
import java.util.HashSet;
import java.util.List;
import java.util.Map;
import java.util.Set;
import java.util.TreeMap;
import java.util.regex.Matcher;
import java.util.regex.Pattern;

/**
 * Each sentence of the document that names a boundary has a test of its own, and holds. What names a
 * boundary is looked for in the document itself, so that none is left out.
 */
public final class BoundariesTest {
    /** Words that name a boundary: ranges, mosts and leasts, what there is at first, what is cut, findings. */
    private static final Pattern NAMED = Pattern.compile("\\d+ to \\d+|at most|at least|at first|\\bcut\\b|\\babove\\b(?! \\(what)"
        + "|\\bbelow\\b(?! the line)|\\bfirst\\b|modulo|\\ball\\b|too early|\\bempty\\b|\\bnothing\\b|\\bthe (?:fewest|least|greatest|most)\\b"
        + "|\\bas (?:far|long) as\\b|\\balone\\b|\\blowest\\b|\\bBEYOND\\b|\\bFULL\\b|\\bKIND\\b(?=[:.])|\\bNONE\\b|\\bSTATE\\b"
        + "|\\bMISSING\\b|\\bSIZE\\b|\\b[79]th\\b|\\bwithout\\b|\\bodd\\b|an int\\b");

    private static int wrong = 0;

    private static void tellWrong(String what) {
        wrong++;
        System.out.println(what);
    }

    public static void main(String[] args) throws Exception {
        Map<String, String> sections = sections(Files.readString(Path.of(System.getProperty("doc"))));
        Map<String, boolean[]> covered = new TreeMap<>();
        for (String where : sections.keySet()) covered.put(where, new boolean[sections.get(where).length()]);
        Set<String> names = new HashSet<>();
        int asked = 0;
        for (Bounds bounds : Bounds.all()) {
            for (Bounds.Sentence s : bounds.sentences) {
                if (!names.add(s.name())) tellWrong("told twice: " + s.name());
                for (String what : bounds.wrongOf(s)) tellWrong(s.name() + "\n    " + what);
                cover(s, sections.get(s.where), covered.get(s.where));
            }
            asked += bounds.asked;
        }
        for (String where : sections.keySet()) lookForOthers(where, sections.get(where), covered.get(where));
        System.out.println(wrong == 0 ? names.size() + " sentences hold, by " + asked + " answers" : wrong + " things are not as due");
        if (wrong != 0) System.exit(1);
    }

    /** The Terms as "T" and the promises by their numbers, each in one line. */
    private static Map<String, String> sections(String doc) {
        Map<String, String> sections = new TreeMap<>();
        Matcher m = Pattern.compile("(?ms)^## (Terms|Promise (\\d+):[^\n]*)\n(.*?)(?=^## )").matcher(doc);
        while (m.find()) {
            String text = m.group(3).replaceAll("(?m)^Ahead of the calls .*$", "");
            sections.put(m.group(2) == null ? "T" : m.group(2), oneLine(text));
        }
        if (sections.size() != 45) tellWrong("the document has " + sections.size() + " sections");
        return sections;
    }

    private static String oneLine(String text) {
        return text.replace("```text", " ").replace("```", " ").replaceAll("\\s+", " ");
    }

    private static void cover(Bounds.Sentence s, String section, boolean[] covered) {
        int at = section == null ? -1 : section.indexOf(s.words);
        if (at < 0) {
            tellWrong("the document doesn't say so: " + s.name());
            return;
        }
        for (int i = at; i < at + s.words.length(); i++) covered[i] = true;
    }

    private static void lookForOthers(String where, String section, boolean[] covered) {
        Matcher m = NAMED.matcher(section);
        while (m.find()) {
            if (!covered[m.start()] || !covered[m.end() - 1]) {
                int from = Math.max(0, m.start() - 40);
                int to = Math.min(section.length(), m.end() + 40);
                tellWrong("no test for " + where + ": .. " + section.substring(from, to) + " .. (" + m.group() + ")");
            }
        }
    }
}
