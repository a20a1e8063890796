import java.io.IOException;
import java.io.UncheckedIOException;
import java.nio.charset.StandardCharsets;
import java.nio.file.Files;
import java.nio.file.Path;
import java.util.Locale;

/** Counts answers that are not the due ones, and feeds texts to a bridge. */
final class Checks {
  private static final Path DOCUMENT = Path.of("..", "shared", "DOC.md");

  private int asked;
  private int wrong;
  private String sentence = "";
  private int askedAhead;
  private String document = "";

  /** What is asked from here on would be answered otherwise, if this sentence of the document were broken. */
  void sentence(String words) {
    endSentence();
    sentence = words;
    askedAhead = asked;
    if (document.isEmpty()) {
      document = plain(read(DOCUMENT));
    }
    if (!document.contains(plain(words))) {
      wrong++;
      System.out.println("the document does not say: " + words);
    }
  }

  private static String read(Path path) {
    try {
      return Files.readString(path);
    } catch (IOException unread) {
      throw new UncheckedIOException("no document beside the tests", unread);
    }
  }

  /** Wherever lines end, and whether or not a quotation begins with a capital letter. */
  private static String plain(String text) {
    return text.replaceAll("\\s+", " ").toLowerCase(Locale.ROOT);
  }

  private void endSentence() {
    if (!sentence.isEmpty() && asked == askedAhead) {
      wrong++;
      System.out.println("nothing is asked of: " + sentence);
    }
  }

  void due(String what, long got, long want) {
    asked++;
    if (got != want) {
      wrong++;
      System.out.println(what + " answered " + got + ", due is " + want
          + (sentence.isEmpty() ? "" : ", as the document says: " + sentence));
    }
  }

  void due(String what, boolean got, boolean want) {
    due(what, got ? 1 : 0, want ? 1 : 0);
  }

  /** Ends the program: with exit code 1 if there was a wrong answer. */
  void close(String name) {
    endSentence();
    System.out.println(name + ": " + asked + " answers, " + wrong + " wrong");
    if (wrong != 0 || asked == 0) {
      System.exit(1);
    }
  }

  /** The text is all of the tape then, if the tape was empty. */
  static void feed(RecordBridge bridge, String text) {
    byte[] bytes = text.getBytes(StandardCharsets.ISO_8859_1);
    int[] numbers = new int[5];
    int fed = 0;
    for (int begin = 0; begin < bytes.length; begin += 20) {
      for (int i = 0; i < 5; i++) {
        numbers[i] = 0;
        for (int k = 0; k < 4; k++) {
          int place = begin + 4 * i + k;
          numbers[i] = numbers[i] << 8 | (place < bytes.length ? bytes[place] & 255 : ' ');
        }
      }
      fed = bridge.feed(numbers[0], numbers[1], numbers[2], numbers[3], numbers[4]);
    }
    if (fed != RecordBridge.NONE) {
      bridge.end(bytes.length);
    }
  }

  static int book(RecordBridge bridge, String text) {
    feed(bridge, text);
    return bridge.book();
  }

  /** A new bridge with a book; it must be one. */
  static RecordBridge withBook(String text) {
    RecordBridge bridge = new RecordBridge();
    if (book(bridge, text) == RecordBridge.NONE) {
      throw new IllegalArgumentException("no book: fault " + bridge.fault(0) + " at " + bridge.fault(1));
    }
    return bridge;
  }

  /** A word of letters a .. z as a number. */
  static long word(String letters) {
    long number = 0;
    for (char letter : letters.toCharArray()) {
      number = number << 5 | letter - 'a' + 1;
    }
    return number;
  }
}
