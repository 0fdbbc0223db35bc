import java.io.IOException;
import java.io.UncheckedIOException;

/** What the tests of the document's sentences share: they go through its sections, and quote what they look at. */
class Sentences extends Checks {
    private static final Document DOCUMENT = document();

    private static String section = "";
    private static String sentence = "";
    private static int checksBefore = 0;

    private static Document document() {
        try {
            return new Document();
        } catch (IOException e) {
            throw new UncheckedIOException(e);
        }
    }

    static void section(String name) {
        closeSentence();
        section = name;
        sentence = "";
        topic(name);
        is("the section stands in the document", DOCUMENT.has(name), true);
    }

    /** The next checks look at this sentence of the section. */
    static void sentence(String words) {
        closeSentence();
        quote(words);
        sentence = words;
        topic(section + ", \"" + (words.length() > 60 ? words.substring(0, 60) + ".." : words) + "\"");
        checksBefore = checks();
    }

    /** Words that promise nothing by themselves. */
    static void about(String words) {
        closeSentence();
        sentence = "";
        quote(words);
    }

    private static void quote(String words) {
        is("\"" + words + "\" stands in " + section, DOCUMENT.take(section, words), true);
    }

    private static void closeSentence() {
        if (!sentence.isEmpty()) {
            is("a sentence without a check", checks() == checksBefore, false);
        }
    }

    /** To be called at the end: every sentence of the document was quoted. */
    static void everythingIsQuoted() {
        closeSentence();
        topic("the document");
        is("what no test looks at", DOCUMENT.rest(), "");
    }
}
