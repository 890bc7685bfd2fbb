import java.io.IOException;
import java.nio.file.Files;
import java.nio.file.Path;
import java.util.ArrayList;
import java.util.HashSet;
import java.util.List;
import java.util.Set;
import java.util.TreeMap;
import java.util.Map;

/**
 * Tests that are told by the sentences of the document: says() names the sentence that is tested from there on, and it
 * has to be in the document. finish() looks whether each sentence has been named that names a boundary case.
 */
final class Edge {
    /** Makes a house as it is ahead of the call that is refused. */
    interface Scene {
        ReviewForge make();
    }

    interface Act {
        long run(ReviewForge forge);
    }

    /** The number under which the sentences of "Terms" stand. */
    static final int TERMS = 0;
    private static final Path DOCUMENT = Path.of("../shared/DOC.md");
    private static final Map<Integer, String> TEXTS = read();
    private static final Map<Integer, Set<String>> NAMED = new TreeMap<>();
    private static int promise = TERMS;
    private static String sentence = "";

    private Edge() {
    }

    private static String plain(String text) {
        return text.replaceAll("\\s+", " ").strip();
    }

    /** The text of the terms, and of each promise. */
    private static Map<Integer, String> read() {
        Map<Integer, String> result = new TreeMap<>();
        try {
            String text = Files.readString(DOCUMENT);
            int end = text.indexOf("## Promise 1:");
            String ahead = text.substring(text.indexOf("## What it is"), text.indexOf("## The public face"));
            result.put(TERMS, ahead + text.substring(text.indexOf("## Terms"), text.indexOf("The constants:")));
            for (String part : text.substring(end).split("(?m)^## ")) {
                if (part.startsWith("Promise ")) {
                    result.put(Integer.parseInt(part.substring(8, part.indexOf(':'))), part);
                }
            }
        } catch (IOException missing) {
            System.out.println("there is no " + DOCUMENT + ": the sentences are not looked up");
        }
        return result;
    }

    static void says(int itsPromise, String itsSentence) {
        promise = itsPromise;
        sentence = plain(itsSentence);
        NAMED.computeIfAbsent(promise, ignored -> new HashSet<>()).add(sentence);
        if (!TEXTS.isEmpty()) {
            boolean isThere = plain(TEXTS.getOrDefault(promise, "")).contains(sentence);
            due("the document says so", isThere, true);
        }
    }

    static void says(String itsSentence) {
        says(TERMS, itsSentence);
    }

    static void due(String call, long got, long want) {
        Expect.due(promise, "\"" + sentence + "\": " + call, got, want);
    }

    static void due(String call, boolean got, boolean want) {
        Expect.due(promise, "\"" + sentence + "\": " + call, got, want);
    }

    static void due(String call, String got, String want) {
        Expect.due(promise, "\"" + sentence + "\": " + call, got, want);
    }

    /** Of long texts just the first lines are told that are not the same. */
    static void alike(String call, String got, String want) {
        String[] gotLines = got.split("\n");
        String[] wantLines = want.split("\n");
        int at = 0;
        while (at < gotLines.length && at < wantLines.length && gotLines[at].equals(wantLines[at])) {
            at++;
        }
        boolean isAlike = at == gotLines.length && at == wantLines.length;
        due(call, isAlike ? "" : at < gotLines.length ? gotLines[at] : "less", isAlike ? "" : at < wantLines.length ? wantLines[at] : "");
    }

    static void index(String call, Scene scene, Act act) {
        refused(call, IndexOutOfBoundsException.class, scene, act);
    }

    static void argument(String call, Scene scene, Act act) {
        refused(call, IllegalArgumentException.class, scene, act);
    }

    static void state(String call, Scene scene, Act act) {
        refused(call, IllegalStateException.class, scene, act);
    }

    /** The call throws just this, and behind that the house tells the same as one that has not had the call. */
    private static void refused(String call, Class<?> due, Scene scene, Act act) {
        ReviewForge forge = scene.make();
        String got;
        try {
            got = "answered " + act.run(forge);
        } catch (RuntimeException thrown) {
            got = Expect.nameOf(thrown);
        }
        due(call, got, due.getSimpleName());
        alike(call + ", which changes nothing", Probe.of(forge), Probe.of(scene.make()));
    }

    /** The call is not refused. */
    static void allowed(String call, Scene scene, Act act) {
        String got = "";
        try {
            act.run(scene.make());
        } catch (RuntimeException thrown) {
            got = Expect.nameOf(thrown);
        }
        due(call, got, "");
    }

    /** Looks whether each sentence has been named, as a whole or in part. */
    static void finish(String test) {
        for (Map.Entry<Integer, String> entry : TEXTS.entrySet()) {
            promise = entry.getKey();
            for (String one : sentencesOf(entry.getValue())) {
                boolean isNamed = NAMED.getOrDefault(promise, Set.of()).stream()
                        .anyMatch(named -> one.contains(named) || named.contains(one));
                sentence = one;
                due("it has a test", isNamed, true);
            }
        }
        Expect.finish(test);
    }

    /** Of the terms all sentences, of a promise what is told of its parameters, its answer, and what it throws. */
    private static List<String> sentencesOf(String text) {
        List<String> result = new ArrayList<>();
        for (String line : text.split("\n")) {
            boolean isOfPromise = promise != TERMS && !line.matches("(- |Returns |Throws ).*");
            if (!isOfPromise && !line.startsWith("#")) {
                for (String one : line.split("(?<=\\.)\\s+")) {
                    if (promise != TERMS || one.matches(".*[.:)]")) {
                        result.add(plain(one));
                    }
                }
            }
        }
        result.removeIf(String::isBlank);
        return result;
    }
}
