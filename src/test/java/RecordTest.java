/** Promises 21 to 24 and 35 to 37: records made, copied, dropped, by the seed; acts undone, refusals. */
public final class RecordTest {
  private static final Checks CHECKS = new Checks();
  private static final long NOTHING = RecordBridge.NOTHING;
  private static final String BOOK = "scheme s int i times 2,word w;"
      + "scheme t bit o,byte b,char c,float f,double d,word w;cross s to t d from i;";

  public static void main(String[] args) {
    makes();
    copies();
    drops();
    chances();
    chanceInFullSchemes();
    undoes();
    undoesOfEach();
    undoesTwenty();
    seeds();
    statuses();
    CHECKS.close("RecordTest");
  }

  private static void due(String what, long got, long want) {
    CHECKS.due(what, got, want);
  }

  private static void due(String what, boolean got, boolean want) {
    CHECKS.due(what, got, want);
  }

  private static void makes() {
    RecordBridge bridge = Checks.withBook(BOOK);
    bridge.write(0, 0, 1, 4, 5);
    bridge.put(0, 1, 0, 10, 0);
    bridge.write(0, 0, 15, 4, 6);
    due("make", bridge.make(0), 0);
    due("its cells are 0", bridge.cell(0, 0, 0, 1), 0);
    due("its word is empty", bridge.get(0, 1, 0, 0), 8);
    due("other places stay", bridge.get(0, 0, 15, 1), 6);
    for (int i = 1; i < 8; i++) {
      due("make", bridge.make(0), i);
    }
    due("its cells are 0", bridge.cell(0, 0, 7, 1), 0);
    due("a ninth one", bridge.make(0), -1);
    due("records", bridge.has(4), 8);
    due("of the other one", bridge.make(1), 0);
    due("no scheme", bridge.make(2), -1);
    due("no scheme", bridge.make(-1), -1);
    due("refused", bridge.status(2), 3);
    due("acts", bridge.has(3), 12);
    due("no book", new RecordBridge().make(0), -1);
  }

  private static void copies() {
    RecordBridge bridge = Checks.withBook(BOOK);
    due("no record", bridge.copy(0, 0), -1);
    bridge.make(0);
    bridge.make(0);
    bridge.write(0, 0, 1, 4, 5);
    bridge.put(0, 1, 0, 8, 77);
    bridge.write(0, 0, 2, 4, 9);
    due("copy", bridge.copy(0, 0), 2);
    due("its cell", bridge.cell(0, 0, 2, 0), 0);
    due("its cell", bridge.cell(0, 0, 2, 1), 5);
    due("its word", bridge.cell(0, 1, 2, 0), 77);
    bridge.write(0, 0, 1, 4, 6);
    due("a copy of its own", bridge.cell(0, 0, 2, 1), 5);
    due("records", bridge.has(4), 3);
    due("no record", bridge.copy(0, 3), -1);
    due("no record", bridge.copy(0, -1), -1);
    due("no scheme", bridge.copy(2, 0), -1);
    for (int i = 3; i < 8; i++) {
      due("copy", bridge.copy(0, 1), i);
    }
    due("a ninth one", bridge.copy(0, 1), -1);
    due("refused", bridge.status(2), 5);
    due("its cell", bridge.cell(0, 0, 7, 0), 9);
  }

  private static void drops() {
    RecordBridge bridge = Checks.withBook(BOOK);
    for (int i = 0; i < 4; i++) {
      bridge.make(0);
      bridge.write(0, 0, 2 * i + 1, 4, 10 + i);
      bridge.put(0, 1, i, 8, 1 + i);
    }
    bridge.put(0, 1, 3, 10, 0);
    bridge.write(0, 0, 9, 4, 99);
    due("drop", bridge.drop(0, 1), true);
    due("records", bridge.has(4), 3);
    due("ahead", bridge.cell(0, 0, 0, 1), 10);
    due("behind", bridge.cell(0, 0, 1, 1), 12);
    due("behind", bridge.cell(0, 0, 2, 1), 13);
    due("behind", bridge.cell(0, 1, 1, 0), 3);
    due("nothing goes along", bridge.get(0, 1, 2, 0), 10);
    due("the last place", bridge.get(0, 0, 7, 1), 0);
    due("the last word", bridge.get(0, 1, 3, 0), 8);
    due("places behind stay", bridge.get(0, 0, 9, 1), 99);
    due("no record", bridge.cell(0, 0, 3, 0), NOTHING);
    due("drop the last", bridge.drop(0, 2), true);
    due("its place", bridge.get(0, 0, 5, 1), 0);
    due("no record", bridge.drop(0, 2), false);
    due("no record", bridge.drop(0, -1), false);
    due("no record", bridge.drop(1, 0), false);
    due("no scheme", bridge.drop(2, 0), false);
    due("refused", bridge.status(2), 4);
    due("drop", bridge.drop(0, 0), true);
    due("drop", bridge.drop(0, 0), true);
    due("no records", bridge.has(4), 0);
  }

  private static long drawn;

  private static int draw(int m) {
    drawn = (1103515245L * drawn + 12345L) % (1L << 31);
    return (int) (drawn / 64 % m);
  }

  private static void chances() {
    RecordBridge bridge = Checks.withBook(BOOK);
    drawn = 1;
    int[] counts = new int[2];
    for (int i = 0; i < 4; i++) {
      due("chance", bridge.chance(1), 1);
      int scheme = draw(2);
      int record = counts[scheme]++;
      due("records", bridge.has(4 + scheme), counts[scheme]);
      if (scheme == 0) {
        due("int", bridge.cell(0, 0, record, 0), draw(4000) - 2000);
        due("int", bridge.cell(0, 0, record, 1), draw(4000) - 2000);
        due("word", bridge.cell(0, 1, record, 0), wordOf(draw(4000) - 2000));
      } else {
        due("bit", bridge.cell(1, 0, record, 0), draw(4000) != 2000 ? 1 : 0);
        due("byte", bridge.cell(1, 1, record, 0), (byte) (draw(4000) - 2000));
        due("char", bridge.cell(1, 2, record, 0), (char) (draw(4000) - 2000));
        due("float", bridge.cell(1, 3, record, 0), Float.floatToIntBits((draw(4000) - 2000) / 16f));
        due("double", bridge.cell(1, 4, record, 0), Double.doubleToLongBits((draw(4000) - 2000) / 16.0));
        due("word", bridge.cell(1, 5, record, 0), wordOf(draw(4000) - 2000));
      }
    }
    due("one act each", bridge.has(3), 4);
    due("chance of none", bridge.chance(0), -1);
    due("chance of too many", bridge.chance(21), -1);
    due("chance below", bridge.chance(-1), -1);
    due("refused", bridge.status(2), 3);
    due("without a book", new RecordBridge().chance(1), -1);
  }

  private static long wordOf(int v) {
    long word = 0;
    for (int shift = 35; shift >= 0; shift -= 5) {
      long letter = (long) v >> shift & 31;
      word = letter > 0 && letter < 27 ? 32 * word + letter : word;
    }
    return word;
  }

  private static void chanceInFullSchemes() {
    RecordBridge bridge = Checks.withBook("scheme s int i;scheme t int i;");
    for (int i = 0; i < 7; i++) {
      bridge.make(0);
    }
    drawn = 12345;
    bridge.seed(12345);
    int[] counts = {7, 0};
    for (int i = 0; i < 15; i++) {
      int scheme = draw(2);
      if (counts[scheme] < 8) {
        counts[scheme]++;
        draw(4000);
      }
    }
    due("chance", bridge.chance(15), counts[0] + counts[1] - 7);
    due("records", bridge.has(4), counts[0]);
    due("records", bridge.has(5), counts[1]);
    bridge.chance(20);
    int acts = bridge.has(3);
    due("all are full", bridge.chance(20), 0);
    due("an act", bridge.has(3), acts + 1);
    RecordBridge one = Checks.withBook("scheme s int i;");
    due("no more than eight", one.chance(20), 8);
    due("of one scheme", one.has(4), 8);
  }

  private static void undoes() {
    RecordBridge bridge = Checks.withBook(BOOK);
    due("nothing to undo", bridge.undo(), false);
    bridge.make(0);
    bridge.write(0, 0, 0, 4, 5);
    bridge.write(0, 0, 0, 4, 6);
    bridge.write(0, 0, 0, 5, 7);
    due("acts", bridge.has(3), 3);
    due("undo", bridge.undo(), true);
    due("why stays", bridge.why(), -2);
    due("cell", bridge.cell(0, 0, 0, 0), 5);
    due("undo", bridge.undo(), true);
    due("cell", bridge.cell(0, 0, 0, 0), 0);
    due("undo", bridge.undo(), true);
    due("records", bridge.has(2), 0);
    due("acts", bridge.has(3), 0);
    due("nothing to undo", bridge.undo(), false);
    due("refused", bridge.status(4), 2);
  }

  private static void undoesOfEach() {
    RecordBridge bridge = Checks.withBook(BOOK);
    bridge.write(0, 0, 1, 4, 5);
    bridge.make(0);
    bridge.undo();
    due("a place that make() made 0", bridge.get(0, 0, 1, 1), 5);
    bridge.make(0);
    bridge.write(0, 0, 0, 4, 5);
    bridge.write(0, 0, 3, 4, 8);
    bridge.copy(0, 0);
    bridge.undo();
    due("a copy", bridge.has(4), 1);
    due("its place", bridge.get(0, 0, 2, 1), 0);
    due("its place", bridge.get(0, 0, 3, 1), 8);
    int acts = bridge.has(3);
    bridge.drop(0, 0);
    due("a drop is an act", bridge.has(3), acts + 1);
    bridge.undo();
    due("a drop", bridge.has(4), 1);
    due("its other cell", bridge.get(0, 0, 3, 1), 8);
    due("its cell", bridge.cell(0, 0, 0, 0), 5);
    due("cross", bridge.cross(0, 0), 0);
    int lost = bridge.account(0);
    bridge.undo();
    due("a crossing", bridge.has(5), 0);
    due("its place", bridge.get(1, 4, 0, 1), 0);
    due("the account stays", bridge.account(0), lost);
    bridge.put(0, 8, 0, 10, 0);
    bridge.undo();
    due("a thing", bridge.get(0, 8, 0, 1), 7);
    bridge.seed(99);
    bridge.chance(5);
    bridge.undo();
    due("chance", bridge.has(2), 1);
    bridge.chance(1);
    drawn = 99;
    for (int i = 0; i < 5; i++) {
      int cells = draw(2) == 0 ? 3 : 6;
      for (int cell = 0; cell < cells; cell++) {
        draw(4000);
      }
    }
    due("the seed stays", bridge.has(4) == 2, draw(2) == 0);
  }

  private static void undoesTwenty() {
    RecordBridge bridge = Checks.withBook(BOOK);
    bridge.make(0);
    for (int i = 1; i <= 50; i++) {
      bridge.write(0, 0, 0, 4, i);
      due("acts", bridge.has(3), Math.min(i + 1, 20));
    }
    for (int i = 1; i <= 20; i++) {
      due("undo", bridge.undo(), true);
      due("cell", bridge.cell(0, 0, 0, 0), 50 - i);
      due("acts", bridge.has(3), 20 - i);
    }
    due("no more", bridge.undo(), false);
    due("the cell stays", bridge.cell(0, 0, 0, 0), 30);
    bridge.write(0, 0, 0, 4, 77);
    due("undo", bridge.undo(), true);
    due("the cell", bridge.cell(0, 0, 0, 0), 30);
    due("no more", bridge.undo(), false);
  }

  private static void seeds() {
    RecordBridge bridge = Checks.withBook("scheme s int i;");
    due("seed", bridge.seed(0), true);
    drawn = 0;
    draw(1);
    bridge.chance(1);
    due("by the seed", bridge.cell(0, 0, 0, 0), draw(4000) - 2000);
    due("seed", bridge.seed(2147483647), true);
    drawn = 2147483647;
    draw(1);
    bridge.chance(1);
    due("by the seed", bridge.cell(0, 0, 1, 0), draw(4000) - 2000);
    due("below 0", bridge.seed(-1), false);
    due("below 0", bridge.seed(-2147483648), false);
    due("refused", bridge.status(5), 2);
    draw(1);
    bridge.chance(1);
    due("the seed stays", bridge.cell(0, 0, 2, 0), draw(4000) - 2000);
  }

  private static void statuses() {
    RecordBridge bridge = new RecordBridge();
    bridge.end(1);
    bridge.book();
    bridge.book();
    bridge.make(0);
    bridge.copy(0, 0);
    bridge.drop(0, 0);
    bridge.chance(1);
    for (int i = 0; i < 5; i++) {
      bridge.cross(0, 0);
    }
    bridge.undo();
    for (int i = 0; i < 6; i++) {
      bridge.seed(-1);
    }
    int[] due = {1, 2, 4, 5, 1, 6};
    for (int what = 0; what < 6; what++) {
      due("status " + what, bridge.status(what), due[what]);
    }
    due("others", bridge.status(6), -1);
    due("others", bridge.status(-1), -1);
    bridge.read(0, 0, 0, 0);
    bridge.put(0, 0, 0, 0, 0);
    bridge.would(0, 0, 0);
    Checks.book(bridge, BOOK);
    for (int what = 0; what < 6; what++) {
      due("a book leaves status " + what, bridge.status(what), due[what]);
    }
  }
}
