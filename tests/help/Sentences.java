import java.io.IOException;
import java.nio.file.Files;
import java.nio.file.Path;
import java.util.ArrayList;
import java.util.List;
import java.util.function.LongSupplier;

/**
 * Tests by the sentences of the document: each is named by where the sentence stands, its words, and the case. The
 * words are looked up in the document, and each sentence of a place that was tested must have a test.
 */
final class Sentences {
    private static final Path DOCUMENT = Path.of("../shared/DOC.md");
    /** A sentence ends at '.' or ';', but not amid '..'. */
    private static final String END = "(?<=[^ .(])[.;](?= |$)";

    private static final List<String[]> held = new ArrayList<>();
    private static final List<String> places = new ArrayList<>();
    private static int wrong = 0;

    private Sentences() { }

    /** The tests that follow are about this part of the document. */
    static void at(String place) {
        places.add(place);
    }

    static void holds(String words, String theCase, Runnable test) {
        String place = places.get(places.size() - 1);
        held.add(new String[] {place, words, theCase});
        try {
            test.run();
        } catch (RuntimeException | Error thrown) {
            fault("threw " + thrown);
            thrown.printStackTrace(System.out);
        }
    }

    static void due(String call, long got, long want) {
        if (got != want) {
            fault(call + " answered " + got + ", due is " + want);
        }
    }

    static void due(String call, String got, String want) {
        if (!got.equals(want)) {
            fault(call + " is " + got + ", due is " + want);
        }
    }

    /** The call answers so, and nothing that the digest tells has changed. */
    static void refused(Counted x, long want, String call, LongSupplier answer) {
        long before = x.digest();
        due(call, answer.getAsLong(), want);
        if (x.digest() != before) {
            fault(call + " changed something");
        }
    }

    /** Numbers below the least and above the most. */
    static int[] outside(int least, int most) {
        return new int[] {least - 1, most + 1, Integer.MIN_VALUE, Integer.MAX_VALUE, most + 256};
    }

    static void end() {
        lookUpWords();
        System.out.println(wrong == 0 ? held.size() + " tests of sentences hold" : wrong + " faults");
        if (wrong != 0) {
            System.exit(1);
        }
    }

    private static void fault(String what) {
        String[] test = held.get(held.size() - 1);
        wrong++;
        System.out.println(test[0] + ", \"" + test[1] + "\", " + test[2] + ": " + what);
    }

    private static void lookUpWords() {
        String document;
        try {
            document = Files.readString(DOCUMENT);
        } catch (IOException missing) {
            System.out.println("the sentences are not looked up: no " + DOCUMENT);
            return;
        }
        for (String place : places) {
            String text = textOf(document, place);
            for (String[] test : held) {
                if (test[0].equals(place) && !text.contains(test[1])) {
                    wrong++;
                    System.out.println(place + " does not say: " + test[1]);
                }
            }
            for (String sentence : text.split(END)) {
                if (isOfRules(place) && !isTested(place, sentence.strip())) {
                    wrong++;
                    System.out.println(place + " has no test of: " + sentence.strip());
                }
            }
        }
    }

    private static boolean isOfRules(String place) {
        return place.startsWith("Promise") || place.startsWith("Terms") || place.equals("Refused");
    }

    /** A long sentence may be tested by its parts, or a short one as part of a test's words. */
    private static boolean isTested(String place, String sentence) {
        for (String[] test : held) {
            if (test[0].equals(place) && (test[1].contains(sentence) || sentence.contains(test[1]))) {
                return true;
            }
        }
        return sentence.isEmpty();
    }

    /** A place is 'Promise 1' .. 'Promise 27', 'Terms 1' .. 'Terms 3', 'Refused', or the name of a chapter. */
    private static String textOf(String document, String place) {
        String plain = document.replace("```text", "").replace("```", "").replaceAll("\\s+", " ");
        String number = place.substring(place.indexOf(' ') + 1);
        if (place.startsWith("Promise")) {
            String text = between(plain, "## " + place + ":", " ## ");
            return text.substring(text.indexOf("`: ") + 3);
        }
        if (place.startsWith("Terms")) {
            return between(plain, "======== " + number + " ", number.equals("3") ? "Refused," : "========");
        }
        if (place.equals("Refused")) {
            return "Refused," + between(plain, "Refused,", "Ahead of the calls");
        }
        return between(plain, "## " + place + " ", " ## ");
    }

    private static String between(String text, String start, String end) {
        int from = text.indexOf(start);
        if (from < 0) {
            return "";
        }
        int to = text.indexOf(end, from + start.length());
        return text.substring(from + start.length(), to < 0 ? text.length() : to);
    }
}
