import java.io.IOException;
import java.io.UncheckedIOException;
import java.nio.file.Files;
import java.nio.file.Path;
import java.util.ArrayList;
import java.util.HashSet;
import java.util.LinkedHashMap;
import java.util.List;
import java.util.Map;
import java.util.Set;

/** The sentences of ../shared/DOC.md by section, and those among them that a test is about. */
final class Sentences {
    private final Check check;
    private final Map<String, List<String>> sections = new LinkedHashMap<>();
    private final Set<String> told = new HashSet<>();

    Sentences(Check check) {
        this.check = check;
        for (String section : document().split("\n## ")) {
            String[] titleAndText = section.split("\n", 2);
            String title = titleAndText[0].replaceAll("(Promise \\d+):.*", "$1");
            sections.put(title, sentencesOf(titleAndText.length > 1 ? titleAndText[1] : ""));
        }
    }

    private static String document() {
        try {
            return Files.readString(Path.of("../shared/DOC.md"));
        } catch (IOException e) {
            throw new UncheckedIOException(e);
        }
    }

    private static List<String> sentencesOf(String text) {
        List<String> sentences = new ArrayList<>();
        for (String paragraph : text.split("\n\n")) {
            for (String sentence : plain(paragraph).split("(?<=\\.) ")) {
                sentences.add(sentence);
            }
        }
        return sentences;
    }

    private static String plain(String text) {
        return text.replace("`", "").replaceAll("\\s+", " ").trim();
    }

    /** What is checked next is about the one sentence of the section that holds the quoted words. */
    void about(String section, String quote) {
        check.at(section + ", " + quote);
        int found = 0;
        for (String sentence : sections.getOrDefault(section, List.of())) {
            if (sentence.contains(plain(quote))) {
                told.add(section + ": " + sentence);
                found++;
            }
        }
        check.same("stands once in the document", found == 1 ? "stands once in the document" : found + " times");
    }

    /** No sentence that names an exception, no sentence of the terms and no promise may be left out. */
    void allTold() {
        check.at("the sentences of the document");
        for (Map.Entry<String, List<String>> section : sections.entrySet()) {
            String title = section.getKey();
            boolean isPromise = title.startsWith("Promise ");
            int toldHere = 0;
            for (String sentence : section.getValue()) {
                boolean isTold = told.contains(title + ": " + sentence);
                boolean isDue = isPromise ? sentence.startsWith("Throws ") : title.equals("Terms") && isTerm(sentence);
                toldHere += isTold ? 1 : 0;
                if (isDue && !isTold) {
                    check.same("a test about: " + title + ": " + sentence, "none");
                }
            }
            if (isPromise && toldHere == 0) {
                check.same("a test about: " + title, "none");
            }
        }
        check.same("50", String.valueOf(sections.keySet().stream().filter(t -> t.startsWith("Promise ")).count()));
    }

    /** Headings of one word, and the lists of constants and calls that close the terms, say nothing to be tested. */
    private static boolean isTerm(String sentence) {
        return sentence.contains(" ") && !sentence.startsWith("Ahead of the calls");
    }
}
