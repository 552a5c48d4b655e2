import java.util.HashSet;
import java.util.LinkedHashSet;
import java.util.Set;

/**
 * The sentences of the document, each behind the name of its part or the number of its promise, and which of them
 * were tested: so that no sentence is forgotten, and no test tells of one that is not there. The page of Java and the
 * signatures are for FaceTest.
 */
final class Sentences {
    private final Set<String> all = new LinkedHashSet<>();
    private final Set<String> tested = new HashSet<>();

    Sentences(String document) {
        for (String part : document.split("\n## ")) {
            if (part.startsWith("Description\n")) {
                takeDescription(part);
            } else if (part.startsWith("What it is\n") || part.startsWith("Not promised\n")) {
                takeBlocks(part.substring(0, part.indexOf('\n')), part);
            } else if (part.startsWith("Promise ")) {
                takePromise(part.substring("Promise ".length(), part.indexOf(':')), part);
            }
        }
    }

    private void takeDescription(String part) {
        for (String block : part.split("\n\n")) {
            String text = block.replace('\n', ' ').strip();
            int dot = text.indexOf(". ");
            if (dot > 0 && text.substring(0, dot).matches("[A-Z][a-z ]+")) {
                takeSentences(text.substring(0, dot), text.substring(dot + 2));
            }
        }
    }

    private void takeBlocks(String name, String part) {
        String[] blocks = part.split("\n\n");
        for (int k = 1; k < blocks.length; k++) {
            takeSentences(name, blocks[k].replace('\n', ' ').strip());
        }
    }

    private void takePromise(String number, String part) {
        String[] blocks = part.split("\n\n");
        for (int k = 1; k < blocks.length; k++) {
            String block = blocks[k].strip();
            if (block.startsWith("- ")) {
                for (String line : block.split("\n")) {
                    all.add(number + ": " + line.substring(2));
                }
            } else if (!block.startsWith("`") && !block.startsWith("----")) {
                takeSentences(number, block.replace('\n', ' '));
            }
        }
    }

    private void takeSentences(String name, String text) {
        for (String sentence : text.split("(?<=\\.) ")) {
            all.add(name + ": " + sentence);
        }
    }

    /** Runs the test of the one sentence that begins like this. */
    void test(String beginning, Check.Call call) {
        String sentence = find(beginning);
        tested.add(sentence);
        Check.under(sentence, call);
    }

    /** Says of a sentence that it names no boundary case of its own. */
    void pass(String beginning) {
        tested.add(find(beginning));
    }

    private String find(String beginning) {
        String found = null;
        for (String sentence : all) {
            if (sentence.startsWith(beginning)) {
                Check.that("two sentences begin with " + beginning, found == null);
                found = sentence;
            }
        }
        Check.that("no sentence begins with " + beginning, found != null);
        return found == null ? beginning : found;
    }

    void end() {
        for (String sentence : all) {
            Check.that("no test tells of: " + sentence, tested.contains(sentence));
        }
        System.out.println(all.size() + " sentences");
    }
}
