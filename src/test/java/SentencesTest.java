import java.nio.file.Files;
import java.nio.file.Path;
import java.util.ArrayList;
import java.util.BitSet;
import java.util.List;
import java.util.regex.Matcher;
import java.util.regex.Pattern;
import java.util.stream.Stream;

/**
 * Holds the tests of edges against the document: what they quote stands there, and each place of it that names an edge
 * is quoted by one of them. It tells nothing of the program; it tells when the document and the tests drift apart.
 */
public final class SentencesTest {
  private static final Pattern QUOTE = Pattern.compile("Due\\.says\\(\"((?:[^\"\\\\]|\\\\.)*)\"\\)");
  private static final Pattern EDGE = Pattern.compile(
      "[0-9][0-9,]*( \\([^)]*\\))? \\.\\. [0-9]|\\bat (most|least|first)\\b|-[1-6]\\b|\\bNONE\\b|\\bNOTHING\\b|\\bcut\\b|\\balike\\b|\\bmissing\\b"
      + "|\\bBROKEN\\b|\\b[Bb]eyond\\b|\\bnot (above|below|farther)\\b|\\bFAULT at\\b|\\bempty\\b|\\bthe (first|last|greatest|least|lowest)\\b"
      + "|\\bNUMBERS to\\b|\\b(at the|ahead of) latest\\b|\\bmore than\\b|\\bwithout (times|CURRENT|STORMS)\\b|\\bbeside\\b");

  public static void main(String[] args) throws Exception {
    Path doc = Path.of(System.getProperty("shared", "../shared"), "DOC.md");
    if (!Files.exists(doc)) {
      System.out.println("SentencesTest: no document at " + doc + ", nothing to hold the tests against");
      return;
    }
    String text = Files.readString(doc).replaceAll("\\s+", " ");
    BitSet quoted = new BitSet();
    for (String quote : quotes()) mark(text, quote, quoted);
    everyEdge(text, quoted);
    everyPromise(text, quoted);
    Due.close("SentencesTest");
  }

  private static List<String> quotes() throws Exception {
    List<String> quotes = new ArrayList<>();
    Path tests = Path.of(System.getProperty("project", "."), "src/test/java");
    try (Stream<Path> files = Files.list(tests)) {
      for (Path file : (Iterable<Path>) files.sorted()::iterator) {
        if (!file.getFileName().toString().startsWith("Edges")) continue;
        Matcher m = QUOTE.matcher(Files.readString(file));
        while (m.find()) quotes.add(m.group(1).replace("\\\"", "\""));
      }
    }
    return quotes;
  }

  private static void mark(String text, String quote, BitSet quoted) {
    int at = text.indexOf(quote);
    Due.is("the document says \"" + quote + "\"", at >= 0 ? 1 : 0, 1);
    if (at >= 0) quoted.set(at, at + quote.length());
  }

  private static void everyEdge(String text, BitSet quoted) {
    Matcher m = EDGE.matcher(text);
    m.region(text.indexOf("## Terms"), text.indexOf("## Not promised"));
    while (m.find()) {
      String around = text.substring(Math.max(0, m.start() - 50), Math.min(text.length(), m.end() + 30));
      Due.is("a test quotes \"" + m.group() + "\" in \"" + around + "\"", quoted.nextClearBit(m.start()) >= m.end() ? 1 : 0, 1);
    }
  }

  /** All words that a promise says behind the form of its call, up to the next heading. */
  private static void everyPromise(String text, BitSet quoted) {
    Matcher m = Pattern.compile("## Promise (\\d+): [^`]*`[^`]*`:? ?(.*?) (?=## )").matcher(text);
    int promises = 0;
    while (m.find()) {
      promises++;
      Due.is("a test quotes promise " + m.group(1), quoted.get(m.start(2), m.end(2)).isEmpty() ? 0 : 1, 1);
    }
    Due.is("promises", promises, 41);
  }
}
