import java.io.IOException;
import java.nio.file.Files;
import java.nio.file.Path;
import java.util.regex.Matcher;
import java.util.regex.Pattern;

/** Sentences of the document, each with a test of its own; tells the boundary cases that no test has quoted. */
final class SentenceKit {
  private static final Path DOC = Path.of("../shared/DOC.md");
  /** Words by which the document names a boundary case. */
  private static final Pattern EDGE = Pattern.compile("NONE|-[2-8]\\b|\\.\\. \\d|\\bempty|at most|more than|no more"
      + "|\\bbelow|\\babove|\\bstays?\\b|\\btwice|\\bnothing|\\bwithout\\b|all along|\\balike|\\bfirst");

  private static final String DOCUMENT = document();
  private static String name = "";
  private static String text = "";
  private static boolean[] quoted = new boolean[0];

  private SentenceKit() {}

  /** Nothing, if the document is not beside the checkout: the tests run without it, too. */
  private static String document() {
    try {
      return Files.exists(DOC) ? Files.readString(DOC) : "";
    } catch (IOException e) {
      return "";
    }
  }

  /** What is said behind the promise's line of code. */
  static void promise(int number) {
    section("## Promise " + number + ":", "`: ", "Promise " + number);
  }

  static void terms() {
    section("## Terms", "\n", "Terms");
  }

  private static void section(String heading, String ahead, String called) {
    close();
    name = called;
    int at = DOCUMENT.indexOf(heading);
    int from = DOCUMENT.indexOf(ahead, Math.max(0, at));
    int till = DOCUMENT.indexOf("\n## ", Math.max(0, at) + 1);
    boolean isThere = at >= 0 && from >= at && till > from;
    text = isThere ? DOCUMENT.substring(from, till) : "";
    quoted = new boolean[text.length()];
    TestKit.holds("the document has " + called, DOCUMENT.isEmpty() || isThere);
  }

  static void sentence(String quote, Runnable test) {
    TestKit.about(name + ", \"" + quote + "\"");
    int at = text.indexOf(quote);
    TestKit.holds("the document says it", DOCUMENT.isEmpty() || at >= 0);
    for (int i = at; at >= 0 && i < at + quote.length(); i++) {
      quoted[i] = true;
    }
    int before = TestKit.asked();
    test.run();
    TestKit.holds("it has a test", TestKit.asked() > before);
    TestKit.about("");
  }

  private static void close() {
    Matcher edge = EDGE.matcher(text);
    while (edge.find()) {
      int from = Math.max(0, edge.start() - 30);
      int till = Math.min(text.length(), edge.end() + 30);
      TestKit.holds(name + " is tested at \"" + text.substring(from, till) + "\"", quoted[edge.start()]);
    }
  }

  static void finish(String test) {
    close();
    TestKit.finish(test);
  }
}
