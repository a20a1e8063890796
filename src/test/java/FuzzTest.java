import java.util.ArrayList;
import java.util.List;
import java.util.Random;

/** Runs of calls drawn by fixed seeds, each answer set beside that of the model. */
public final class FuzzTest {
  private static final int RUNS = 4000;
  private static final int CALLS = 512;
  private static final String[] KINDS = {"bit", "byte", "char", "short", "int", "long", "float", "double", "word"};
  private static final String[] NAMES = {"a", "b", "c", "dd", "eee", "f", "g", "abcdef", "zzzzzz", "x", "tim"};
  private static final String[] BITS = {
    "scheme", "times", "cross", "to", "from", "by", "over", "plus", "int", "word", "bit", "a", "b", "dd", "abcdefg",
    "0", "1", "4", "5", "999", "1000", "007", ",", ";", " ", "\n", "\t", "!", "A", "schemes", "", "9", "x"
  };

  private final Random random;
  private final int run;
  private final Checks checks;
  private final RecordBridge bridge = new RecordBridge();
  private final Model model = new Model();
  private int calls;

  private FuzzTest(int run, Checks checks) {
    this.run = run;
    this.checks = checks;
    random = new Random(run);
  }

  public static void main(String[] args) {
    Checks checks = new Checks();
    for (int run = 0; run < RUNS; run++) {
      new FuzzTest(run, checks).go();
    }
    checks.close("FuzzTest");
  }

  private void go() {
    newBook();
    while (calls < CALLS) {
      call(random.nextInt(40));
    }
  }

  private void due(String call, long got, long want) {
    calls++;
    checks.due("run " + run + ", call " + calls + ": " + call, got, want);
  }

  private void due(String call, boolean got, boolean want) {
    due(call, got ? 1 : 0, want ? 1 : 0);
  }

  // ---- books

  private int pick(int many) {
    return random.nextInt(many);
  }

  private String blank() {
    return pick(6) == 0 ? "\n" : " ";
  }

  private String gap() {
    return pick(3) == 0 ? blank() : "";
  }

  private String name() {
    return NAMES[pick(NAMES.length)];
  }

  /** A text that most often is a book. */
  private String text() {
    StringBuilder text = new StringBuilder(gap());
    int schemes = pick(60) == 0 ? 4 : 1 + pick(3);
    String[] names = new String[schemes];
    String[][] fields = new String[schemes][];
    int[][] kinds = new int[schemes][];
    int start = pick(NAMES.length);
    for (int i = 0; i < schemes; i++) {
      names[i] = NAMES[(start + i) % NAMES.length];
      int many = pick(60) == 0 ? 7 : 1 + pick(6);
      fields[i] = new String[many];
      kinds[i] = new int[many];
      text.append("scheme").append(blank()).append(names[i]).append(blank());
      int first = pick(NAMES.length);
      for (int k = 0; k < many; k++) {
        fields[i][k] = NAMES[(first + k) % NAMES.length];
        kinds[i][k] = pick(9);
        text.append(KINDS[kinds[i][k]]).append(blank()).append(fields[i][k]);
        text.append(pick(3) == 0 ? blank() + "times " + (1 + pick(4)) : "").append(gap());
        text.append(k == many - 1 ? ";" : ",").append(gap());
      }
    }
    for (int i = schemes == 1 ? 0 : pick(40) == 0 ? 5 : pick(5); i > 0; i--) {
      int from = pick(schemes);
      int to = (from + 1 + pick(schemes - 1)) % schemes;
      text.append("cross ").append(names[from]).append(blank()).append("to ").append(names[to]).append(blank());
      int first = pick(fields[to].length);
      int many = 1 + pick(fields[to].length);
      for (int k = 0; k < many; k++) {
        int target = (first + k) % fields[to].length;
        text.append(fields[to][target]).append(" from ").append(source(fields[from], kinds[from], kinds[to][target]));
        text.append(gap()).append(k == many - 1 ? ";" : ",").append(gap());
      }
    }
    return text.toString();
  }

  private String source(String[] fields, int[] kinds, int target) {
    if (pick(6) == 0 && (target != 0 || pick(10) == 0)) {
      return "" + pick(1000);
    }
    int first = pick(fields.length);
    boolean free = pick(40) == 0;
    if (!free && (kinds[first] == 0 || kinds[first] == 8) || pick(2) == 0) {
      return fields[first];
    }
    int second = pick(fields.length);
    if (pick(3) == 0 && (free || kinds[second] != 0 && kinds[second] != 8)) {
      return fields[first] + " plus " + fields[second];
    }
    int factor = pick(2) == 0 ? 1 + pick(20) : 1 + pick(999);
    return fields[first] + (pick(2) == 0 ? " by " : " over ") + factor;
  }

  private String spoiled(String text) {
    return pick(2) == 0 ? spoiledBytes(text) : spoiledWords(text);
  }

  private String spoiledBytes(String text) {
    StringBuilder spoiled = new StringBuilder(text);
    for (int i = 1 + pick(3); i > 0 && spoiled.length() > 0; i--) {
      int place = pick(spoiled.length());
      int stop = Math.min(spoiled.length(), place + pick(4));
      switch (pick(5)) {
        case 0 -> spoiled.setLength(place);
        case 1 -> spoiled.delete(place, stop);
        case 2 -> spoiled.insert(place, BITS[pick(BITS.length)]);
        case 3 -> spoiled.insert(place, " " + BITS[pick(BITS.length)] + " ");
        default -> spoiled.replace(place, stop, BITS[pick(BITS.length)]);
      }
    }
    return spoiled.toString();
  }

  /** A word or number is another one of its sort, or a stretch of the text stands again. */
  private String spoiledWords(String text) {
    List<String> words = new ArrayList<>(List.of(text.split("(?<![a-z])(?=[a-z])|(?<![0-9])(?=[0-9])|(?=[,;])")));
    for (int i = 1 + pick(2); i > 0; i--) {
      int place = pick(words.size());
      String word = words.get(pick(words.size()));
      if (pick(4) == 0) {
        words.addAll(place, List.copyOf(words.subList(place, place + pick(words.size() - place + 1))));
      } else if (Character.isDigit(words.get(place).charAt(0))) {
        words.set(place, pick(1100) + " ");
      } else if (sortOf(word) == sortOf(words.get(place)) || pick(20) == 0) {
        words.set(place, word);
      } else {
        i++;
      }
    }
    return String.join("", words);
  }

  private static int sortOf(String word) {
    String letters = word.trim();
    if (List.of(KINDS).contains(letters)) {
      return 0;
    }
    if (List.of("by", "over", "plus").contains(letters)) {
      return 1;
    }
    if (List.of("scheme", "cross", "to", "from", "times").contains(letters)) {
      return 2;
    }
    return letters.startsWith(",") ? 3 : letters.startsWith(";") ? 4 : 5;
  }

  private void feedBoth(String text) {
    String fits = text.length() > 1600 ? text.substring(0, 1600) : text;
    byte[] bytes = fits.getBytes(java.nio.charset.StandardCharsets.ISO_8859_1);
    int[] n = new int[5];
    int fed = 0;
    for (int begin = 0; begin < bytes.length; begin += 20) {
      for (int i = 0; i < 20; i++) {
        int value = begin + i < bytes.length ? bytes[begin + i] & 255 : 32;
        n[i / 4] = n[i / 4] << 8 | value;
      }
      fed = bridge.feed(n[0], n[1], n[2], n[3], n[4]);
      due("feed", fed, model.feed(n[0], n[1], n[2], n[3], n[4]));
    }
    due("end", bridge.end(bytes.length), model.end(bytes.length));
  }

  private void newBook() {
    String text = pick(8) == 0 ? spoiled(text()) : text();
    feedBoth(text);
    bookBoth(text);
  }

  private void bookBoth(String text) {
    due("book() of " + text, bridge.book(), model.book());
    due("fault(0) of " + text, bridge.fault(0), model.fault(0));
    due("fault(1) of " + text, bridge.fault(1), model.fault(1));
  }

  // ---- calls

  private int scheme() {
    return any(3);
  }

  /** Mostly a number below many; some a little aside, few as far as they go. */
  private int any(int many) {
    if (pick(150) == 0) {
      int[] far = {Integer.MAX_VALUE, Integer.MIN_VALUE, 1 << 30, 1 << 16, -65536, Integer.MAX_VALUE / 24 + 1};
      return far[pick(far.length)];
    }
    return pick(12) == 0 ? pick(many + 6) - 3 : pick(many);
  }

  private long v() {
    switch (pick(7)) {
      case 0:
        return pick(100) - 50;
      case 1:
        return random.nextLong();
      case 2:
        return random.nextLong() >> pick(64);
      case 3:
        return pick(2) == 0 ? Long.MIN_VALUE : Long.MAX_VALUE;
      case 4:
        return (long) random.nextInt(1 << 20) << pick(44);
      case 5:
        return Checks.word("zjabcdef".substring(0, pick(9)));
      default:
        return random.nextInt(4000) - 2000;
    }
  }

  private void call(int which) {
    if (which < 14) {
      callRows(which);
    } else if (which < 22) {
      callRecords(which);
    } else if (which < 34) {
      callCrossings(which);
    } else {
      callOthers(which);
    }
  }

  private void callRows(int which) {
    int s = scheme();
    int row = any(9);
    int place = pick(3) == 0 ? any(32) : any(8);
    int kind = any(8);
    int thing = any(11);
    long v = v();
    String at = "(" + s + ", " + row + ", " + place + ", ";
    switch (which) {
      case 0 -> due("length" + at, bridge.length(s, row), model.length(s, row));
      case 1, 2 -> due("read" + at + kind, bridge.read(s, row, place, kind), model.read(s, row, place, kind));
      case 3 -> due("get" + at + "0", bridge.get(s, row, place, 0), model.get(s, row, place, 0));
      case 4 -> due("get" + at + "1", bridge.get(s, row, place, 1), model.get(s, row, place, 1));
      case 5 -> {
        int what = any(2);
        due("get" + at + what, bridge.get(s, row, place, what), model.get(s, row, place, what));
      }
      case 6, 7, 8 -> due("write" + at + kind + ", " + v, bridge.write(s, row, place, kind, v),
          model.write(s, row, place, kind, v));
      case 9, 10 -> due("put" + at + thing + ", " + v, bridge.put(s, row, place, thing, v),
          model.put(s, row, place, thing, v));
      case 11 -> {
        int own = model.field(s, row, 0);
        due("put" + at + own + ", " + v, bridge.put(s, row, place, own, v), model.put(s, row, place, own, v));
      }
      case 12 -> due("cell" + at + kind % 2, bridge.cell(s, row, place, kind % 2), model.cell(s, row, place, kind % 2));
      default -> due("unlike", bridge.unlike(s, place % 4, row % 4), model.unlike(s, place % 4, row % 4));
    }
    due("why() behind " + which, bridge.why(), model.why());
  }

  private void callRecords(int which) {
    int s = scheme();
    int record = any(5);
    switch (which) {
      case 14 -> due("make", bridge.make(s), model.make(s));
      case 15 -> due("copy", bridge.copy(s, record), model.copy(s, record));
      case 16, 17 -> due("drop", bridge.drop(s, record), model.drop(s, record));
      case 18 -> {
        int n = pick(3) == 0 ? any(22) : 1 + pick(3);
        due("chance " + n, bridge.chance(n), model.chance(n));
      }
      case 19, 20 -> compareAll();
      default -> due("undo", bridge.undo(), model.undo());
    }
  }

  /** All cells of all records. */
  private void compareAll() {
    for (int s = 0; s < 3; s++) {
      due("has " + (4 + s), bridge.has(4 + s), model.has(4 + s));
    }
    int s = pick(3);
    for (int field = 0; field < 6; field++) {
      int record = any(8);
      int cell = any(4);
      due("cell " + s + " " + field + " " + record + " " + cell, bridge.cell(s, field, record, cell),
          model.cell(s, field, record, cell));
    }
  }

  private void callCrossings(int which) {
    int crossing = any(4);
    int back = any(4);
    int record = any(3);
    int s = scheme();
    int to = scheme();
    int k = any(4) - 1;
    String at = " " + crossing + " " + back + " " + record + " " + s + " " + to + " " + k;
    switch (which) {
      case 22, 23 -> due("cross" + at, bridge.cross(crossing, record), model.cross(crossing, record));
      case 24 -> {
        for (int what = -1; what < 7; what++) {
          due("account " + what, bridge.account(what), model.account(what));
        }
      }
      case 25 -> {
        int what = any(6);
        due("would" + at + what, bridge.would(crossing, record, what), model.would(crossing, record, what));
      }
      case 26 -> due("round" + at, bridge.round(crossing, back, record), model.round(crossing, back, record));
      case 27 -> due("proved" + at, bridge.proved(crossing, back), model.proved(crossing, back));
      case 28 -> due("way" + at, bridge.way(s, to, k), model.way(s, to, k));
      case 29, 30 -> due("least" + at, bridge.least(s, record, to, k), model.least(s, record, to, k));
      case 31 -> due("origins" + at, bridge.origins(crossing, record), model.origins(crossing, record));
      case 32 -> due("tells" + at, bridge.tells(s, k), model.tells(s, k));
      default -> due("idle" + at, bridge.idle(s, k), model.idle(s, k));
    }
  }

  private void callOthers(int which) {
    int s = scheme();
    int field = any(6);
    int what = any(6);
    switch (which) {
      case 34 -> due("has " + what, bridge.has(what), model.has(what));
      case 35 -> due("letter", bridge.letter(s, field - 1, what), model.letter(s, field - 1, what));
      case 36 -> {
        due("field", bridge.field(s, field, what % 3), model.field(s, field, what % 3));
        due("crossing", bridge.crossing(field, what), model.crossing(field, what));
        due("rule", bridge.rule(s, field, what), model.rule(s, field, what));
        due("status", bridge.status(what), model.status(what));
      }
      case 37 -> {
        int from = any(9);
        int to = any(9);
        due("widens " + from + " " + to, bridge.widens(from, to), model.widens(from, to));
      }
      case 38 -> {
        if (pick(3) == 0) {
          feedBoth(name());
          due("named " + s, bridge.named(s), model.named(s));
        }
      }
      default -> callSeldom(what);
    }
  }

  private void callSeldom(int what) {
    switch (pick(6)) {
      case 0 -> {
        int seed = pick(4) == 0 ? any(2) : random.nextInt() >> pick(8);
        due("seed", bridge.seed(seed), model.seed(seed));
      }
      case 1 -> due("end", bridge.end(what - 1), model.end(what - 1));
      case 2 -> newBook();
      case 3 -> {
        String text = spoiled(text());
        feedBoth(text);
        bookBoth(text);
      }
      default -> due("undo", bridge.undo(), model.undo());
    }
  }
}
