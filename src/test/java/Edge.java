import java.io.IOException;
import java.nio.charset.StandardCharsets;
import java.nio.file.Files;
import java.nio.file.Path;
import java.util.ArrayList;
import java.util.LinkedHashMap;
import java.util.List;
import java.util.Map;
import java.util.Set;
import java.util.TreeSet;
import java.util.function.Supplier;

/** Sentences of the document, in its own words, each with a test of its own; none may be left over. */
final class Edge {
    static final Class<IndexOutOfBoundsException> INDEX = IndexOutOfBoundsException.class;
    static final Class<IllegalArgumentException> ARGUMENT = IllegalArgumentException.class;
    static final Class<UnsupportedOperationException> CANNOT = UnsupportedOperationException.class;
    static final Class<IllegalStateException> FULL = IllegalStateException.class;
    static final Class<java.util.NoSuchElementException> NOBODY = java.util.NoSuchElementException.class;

    interface Test {
        void run();
    }

    /** A call with one of its numbers left open. */
    interface Open {
        Object call(Castlequorum game, int number);
    }

    private static final Map<String, List<String>> TOLD = new LinkedHashMap<>();
    private static String section = "";

    private Edge() {
    }

    /** The section of the document, as its heading begins, to which the next sentences belong. */
    static void in(String heading) {
        section = heading;
        TOLD.putIfAbsent(heading, new ArrayList<>());
    }

    static void of(String sentence, Test test) {
        Check.at(section + ", \"" + sentence + "\":");
        TOLD.get(section).add(sentence);
        int before = Check.made();
        test.run();
        Check.due("the test checks something", Check.made() > before, true);
        Check.at("");
    }

    /** A sentence that names nothing that a call could be tried on. */
    static void nothingIn(String sentence) {
        TOLD.get(section).add(sentence);
    }

    /** The least and the greatest number are answered as due, the next one beyond each and the farthest are refused. */
    static void bounds(Supplier<Castlequorum> scene, Open open, int least, Object atLeast, int most, Object atMost,
            Class<? extends RuntimeException> beyond) {
        Check.due("the least, " + least, answer(scene.get(), open, least), String.valueOf(atLeast));
        Check.due("the greatest, " + most, answer(scene.get(), open, most), String.valueOf(atMost));
        for (int number : new int[] {least - 1, most + 1, Integer.MIN_VALUE, Integer.MAX_VALUE}) {
            Castlequorum game = scene.get();
            Check.refused("what is beyond, " + number + ",", game, beyond, () -> open.call(game, number));
        }
    }

    static void castles(Supplier<Castlequorum> scene, Open open, Object atFirst, Object atSecond) {
        bounds(scene, open, 0, atFirst, 1, atSecond, INDEX);
    }

    static void lords(Supplier<Castlequorum> scene, Open open, Object atFirst, Object atLast) {
        bounds(scene, open, 0, atFirst, 3, atLast, INDEX);
    }

    static void gates(Supplier<Castlequorum> scene, Open open, Object atFirst, Object atLast) {
        bounds(scene, open, 0, atFirst, 2, atLast, INDEX);
    }

    private static String answer(Castlequorum game, Open open, int number) {
        try {
            return String.valueOf(open.call(game, number));
        } catch (RuntimeException thrown) {
            return thrown.getClass().getName();
        }
    }

    /** Fails for each sentence of the document that has no test here, and for each test of what it does not say. */
    static void compare(Path document) throws IOException {
        Map<String, String> sections = sections(Files.readString(document, StandardCharsets.UTF_8));
        Set<String> promises = new TreeSet<>();
        for (Map.Entry<String, List<String>> told : TOLD.entrySet()) {
            String heading = "";
            for (String candidate : sections.keySet()) {
                if (candidate.equals(told.getKey()) || candidate.startsWith(told.getKey() + ":")) {
                    heading = candidate;
                }
            }
            Check.due("a section " + told.getKey(), heading.isEmpty(), false);
            if (!heading.isEmpty()) {
                promises.add(heading);
                compare(heading, sections.get(heading), told.getValue());
            }
        }
        for (String heading : sections.keySet()) {
            if (heading.equals("Terms") || heading.startsWith("Promise ")) {
                Check.due("a test of \"" + heading + "\"", promises.contains(heading), true);
            }
        }
    }

    private static void compare(String heading, String text, List<String> sentences) {
        String left = text;
        for (String sentence : sentences) {
            Check.due(heading + " says \"" + sentence + "\"", text.contains(sentence), true);
            left = left.replace(sentence, "");
        }
        // the signature is FaceTest's
        left = left.replaceAll("^ *`[^`]*`", "").replaceAll("[^A-Za-z0-9' ]", "").trim();
        Check.due(heading + ": sentences without a test", left, "");
    }

    private static Map<String, String> sections(String text) {
        Map<String, String> sections = new LinkedHashMap<>();
        for (String part : text.split("(?m)^## ")) {
            int end = part.indexOf('\n');
            if (end > 0) {
                sections.put(part.substring(0, end).trim(), part.substring(end).replaceAll("\\s+", " "));
            }
        }
        return sections;
    }
}
