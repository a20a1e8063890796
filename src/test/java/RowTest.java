/** Promises 13 to 20: rows, places read, got, written, put, and by what they are refused. */
public final class RowTest {
  private static final Checks CHECKS = new Checks();
  private static final long NOTHING = RecordBridge.NOTHING;
  /** Row 4 has two cells a record, of s; t has all other kinds. */
  private static final String BOOK = "scheme s bit o,byte b,char c,short d,int i times 2,long l;"
      + "scheme t float f,double e times 4,word w times 3;";

  public static void main(String[] args) {
    lengths();
    readsOfRows();
    readRefused();
    writes();
    writeRefused();
    realBits();
    things();
    putsIntoRows();
    putRefused();
    words();
    getRefused();
    cells();
    unlikeCells();
    CHECKS.close("RowTest");
  }

  private static void due(String what, long got, long want) {
    CHECKS.due(what, got, want);
  }

  private static void due(String what, boolean got, boolean want) {
    CHECKS.due(what, got, want);
  }

  private static void lengths() {
    RecordBridge bridge = Checks.withBook(BOOK);
    int[] first = {8, 8, 8, 8, 16, 8, -3, -2, 4};
    int[] second = {8, 32, 24, -3, -3, -3, -3, -2, 4};
    for (int row = 0; row < 9; row++) {
      due("length 0 " + row, bridge.length(0, row), first[row]);
      due("why", bridge.why(), Math.min(first[row], 0));
      due("length 1 " + row, bridge.length(1, row), second[row]);
      due("why", bridge.why(), Math.min(second[row], 0));
    }
    int[][] none = {{0, 9}, {0, -1}, {2, 0}, {-1, 0}, {2, 8}, {2, 6}};
    for (int[] at : none) {
      due("no such row", bridge.length(at[0], at[1]), -4);
      due("why", bridge.why(), -4);
    }
    due("a row", bridge.length(0, 0), 8);
    due("why", bridge.why(), 0);
  }

  private static long asKind(long v, int kind) {
    return kind == 6 ? Float.floatToIntBits((float) v) : kind == 7 ? Double.doubleToLongBits((double) v) : v;
  }

  /** A value of each row read as each kind. */
  private static void readsOfRows() {
    RecordBridge bridge = Checks.withBook(BOOK);
    long[] values = {1, -128, 65535, -32768, -2147483648, Long.MIN_VALUE + 1};
    for (int row = 0; row < 6; row++) {
      due("write", bridge.write(0, row, 3, row, values[row]), true);
      for (int kind = 0; kind < 8; kind++) {
        boolean wide = bridge.widens(row, kind) == 1;
        due("read " + row + " as " + kind, bridge.read(0, row, 3, kind), wide ? asKind(values[row], kind) : NOTHING);
        due("why", bridge.why(), wide ? 0 : -2);
        due("the place ahead of it", bridge.read(0, row, 2, row), 0);
      }
    }
    bridge.write(1, 0, 7, 6, 24);
    due("float", bridge.read(1, 0, 7, 6), Float.floatToIntBits(1.5f));
    due("float as double", bridge.read(1, 0, 7, 7), Double.doubleToLongBits(1.5));
    due("float as long", bridge.read(1, 0, 7, 5), NOTHING);
    bridge.write(1, 1, 31, 7, -24);
    due("double", bridge.read(1, 1, 31, 7), Double.doubleToLongBits(-1.5));
    due("double as float", bridge.read(1, 1, 31, 6), NOTHING);
  }

  private static void readIs(RecordBridge bridge, int scheme, int row, int place, int kind, int why) {
    String at = "read " + scheme + " " + row + " " + place + " " + kind;
    due(at, bridge.read(scheme, row, place, kind), NOTHING);
    due("why of " + at, bridge.why(), why);
  }

  private static void readRefused() {
    RecordBridge bridge = Checks.withBook(BOOK);
    readIs(bridge, 0, 4, 16, 4, -1);
    readIs(bridge, 0, 4, -1, 4, -1);
    readIs(bridge, 0, 4, 16, 1, -1);
    readIs(bridge, 0, 4, 15, 1, -2);
    readIs(bridge, 0, 0, 0, 4, -2);
    readIs(bridge, 0, 4, 0, 0, -2);
    readIs(bridge, 1, 2, 99, 4, -2);
    readIs(bridge, 1, 2, 0, 0, -2);
    readIs(bridge, 0, 8, 99, 4, -2);
    readIs(bridge, 0, 8, 0, 4, -2);
    readIs(bridge, 0, 7, 99, 4, -2);
    readIs(bridge, 0, 6, 99, 4, -3);
    readIs(bridge, 1, 3, 0, 4, -3);
    readIs(bridge, 1, 5, 0, 4, -3);
    readIs(bridge, 0, 6, 99, 8, -4);
    readIs(bridge, 0, 4, 0, -1, -4);
    readIs(bridge, 0, 9, 0, 4, -4);
    readIs(bridge, 0, -1, 0, 4, -4);
    readIs(bridge, 2, 0, 0, 4, -4);
    readIs(bridge, -1, 0, 0, 4, -4);
    due("a place", bridge.read(0, 4, 15, 4), 0);
    due("why", bridge.why(), 0);
  }

  private static void written(int scheme, int row, int kind, long v, long told, long want) {
    RecordBridge bridge = Checks.withBook(BOOK);
    String at = "write " + row + " " + kind + " " + v;
    due(at, bridge.write(scheme, row, 5, kind, v), true);
    due("why of " + at, bridge.why(), 0);
    due("act of " + at, bridge.has(3), 1);
    due("got back " + at, bridge.get(scheme, row, 5, 1), want);
    due("kind of " + at, bridge.get(scheme, row, 5, 0), bridge.field(scheme, row, 0));
    due("the next place", bridge.get(scheme, row, 6, 1), 0);
    due("the place ahead", bridge.get(scheme, row, 4, 1), 0);
    due("put " + at, bridge.put(scheme, row, 6, kind, v), true);
    due("got back " + at, bridge.get(scheme, row, 6, 1), want);
    due("put as a thing", bridge.put(scheme, 8, 0, kind, v), true);
    due("its kind", bridge.get(scheme, 8, 0, 0), kind);
    due("its number", bridge.get(scheme, 8, 0, 1), told);
  }

  private static void written(int scheme, int row, int kind, long v, long told) {
    written(scheme, row, kind, v, told, told);
  }

  private static void writes() {
    written(0, 0, 0, 0, 0);
    written(0, 0, 0, -7, 1);
    written(0, 0, 0, 1L << 40, 1);
    written(0, 1, 1, 300, 44);
    written(0, 1, 1, -129, 127);
    written(0, 2, 2, -1, 65535);
    written(0, 2, 2, 65536 + 65, 65);
    written(0, 3, 1, 200, -56);
    written(0, 3, 3, 40000, -25536);
    written(0, 4, 1, 200, -56);
    written(0, 4, 2, -1, 65535);
    written(0, 4, 3, 40000, -25536);
    written(0, 4, 4, 1L << 31, -2147483648);
    written(0, 5, 2, 66, 66);
    written(0, 5, 4, -1L >>> 32, -1);
    written(0, 5, 5, Long.MIN_VALUE, Long.MIN_VALUE);
    written(0, 5, 5, NOTHING, NOTHING);
    written(1, 0, 1, -1, -1, Float.floatToIntBits(-1));
    written(1, 0, 2, -1, 65535, Float.floatToIntBits(65535));
    written(1, 0, 4, 16777217, 16777217, Float.floatToIntBits(16777216));
    written(1, 0, 5, Long.MAX_VALUE, Long.MAX_VALUE, Float.floatToIntBits(9.223372E18f));
    written(1, 1, 5, Long.MAX_VALUE, Long.MAX_VALUE, Double.doubleToLongBits(9.223372036854775807E18));
    written(1, 1, 6, 8, Float.floatToIntBits(0.5f), Double.doubleToLongBits(0.5));
    written(1, 1, 3, -8, -8, Double.doubleToLongBits(-8));
  }

  private static void writeIs(RecordBridge bridge, int scheme, int row, int place, int kind, int why) {
    String at = "write " + scheme + " " + row + " " + place + " " + kind;
    due(at, bridge.write(scheme, row, place, kind, 1), false);
    due("why of " + at, bridge.why(), why);
    due("no act", bridge.has(3), 0);
  }

  private static void writeRefused() {
    RecordBridge bridge = Checks.withBook(BOOK);
    for (int row = 0; row < 6; row++) {
      for (int kind = 0; kind < 8; kind++) {
        if (bridge.widens(kind, row) == 0) {
          writeIs(bridge, 0, row, 0, kind, -2);
          writeIs(bridge, 0, row, 16, kind, -1);
        }
      }
      writeIs(bridge, 0, row, -1, row, -1);
    }
    writeIs(bridge, 0, 4, 16, 4, -1);
    writeIs(bridge, 1, 0, 0, 7, -2);
    writeIs(bridge, 1, 2, 99, 4, -2);
    writeIs(bridge, 1, 2, 0, 0, -2);
    writeIs(bridge, 0, 8, 99, 4, -2);
    writeIs(bridge, 0, 7, 99, 4, -2);
    writeIs(bridge, 0, 6, 99, 4, -3);
    writeIs(bridge, 1, 3, 0, 4, -3);
    writeIs(bridge, 0, 6, 0, 8, -4);
    writeIs(bridge, 1, 2, 0, 8, -4);
    writeIs(bridge, 0, 4, 0, -1, -4);
    writeIs(bridge, 0, 9, 0, 4, -4);
    writeIs(bridge, 2, 4, 0, 4, -4);
    writeIs(bridge, -1, 4, 0, 4, -4);
    due("cells stay", bridge.get(0, 4, 0, 1), 0);
  }

  /** Bits of floats and doubles are those that Java tells. */
  private static void realBits() {
    RecordBridge bridge = Checks.withBook(BOOK);
    for (int i = 0; i < 120; i++) {
      long v = (i % 2 == 0 ? 1 : -1) * (0x123456789abcdefL >> i / 2 | 1L << i / 2);
      bridge.write(1, 0, i % 8, 6, v);
      due("float of " + v, bridge.read(1, 0, i % 8, 6), Float.floatToIntBits((float) v / 16));
      due("as double", bridge.read(1, 0, i % 8, 7), Double.doubleToLongBits((float) v / 16));
      bridge.write(1, 1, i % 32, 7, v);
      due("double of " + v, bridge.read(1, 1, i % 32, 7), Double.doubleToLongBits((double) v / 16));
      bridge.write(1, 0, i % 8, 5, v);
      due("long as float " + v, bridge.get(1, 0, i % 8, 1), Float.floatToIntBits((float) v));
      bridge.write(1, 1, i % 32, 5, v);
      due("long as double " + v, bridge.get(1, 1, i % 32, 1), Double.doubleToLongBits((double) v));
      if (bridge.has(3) == 20) {
        bridge = Checks.withBook(BOOK);
      }
    }
  }

  private static void thing(RecordBridge bridge, int place, int kind, long number) {
    due("kind of thing " + place, bridge.get(0, 8, place, 0), kind);
    due("number of thing " + place, bridge.get(0, 8, place, 1), number);
    due("why", bridge.why(), 0);
  }

  private static void things() {
    RecordBridge bridge = Checks.withBook(BOOK);
    thing(bridge, 0, 4, 7);
    thing(bridge, 1, 8, Checks.word("ab"));
    thing(bridge, 2, 10, 0);
    thing(bridge, 3, 0, 1);
    due("own", bridge.put(0, 8, 0, 9, (1L << 32) + 5), true);
    thing(bridge, 0, 9, 5);
    due("own below 0", bridge.put(0, 8, 0, 9, 0xffffffffL), true);
    thing(bridge, 0, 9, -1);
    due("nothing", bridge.put(0, 8, 1, 10, 55), true);
    thing(bridge, 1, 10, 0);
    due("word", bridge.put(0, 8, 2, 8, Checks.word("zebra")), true);
    thing(bridge, 2, 8, Checks.word("zebra"));
    due("float", bridge.put(0, 8, 3, 6, 8), true);
    thing(bridge, 3, 6, Float.floatToIntBits(0.5f));
    due("acts", bridge.has(3), 5);
    due("undo", bridge.undo(), true);
    thing(bridge, 3, 0, 1);
    due("one row for all schemes", bridge.get(1, 8, 2, 1), Checks.word("zebra"));
    due("a new book", Checks.book(bridge, BOOK), 2);
    thing(bridge, 0, 4, 7);
    thing(bridge, 2, 10, 0);
  }

  private static void putsIntoRows() {
    RecordBridge bridge = Checks.withBook(BOOK);
    for (int row = 0; row < 6; row++) {
      for (int kind = 0; kind < 8; kind++) {
        boolean wide = bridge.widens(kind, row) == 1;
        due("put " + kind + " into " + row, bridge.put(0, row, 1, kind, 1), wide);
        due("why", bridge.why(), wide ? 0 : -2);
        due("out of the row", bridge.put(0, row, 16, kind, 1), false);
        due("why", bridge.why(), -1);
      }
    }
    due("int into double", bridge.put(1, 1, 0, 4, 3), true);
    due("got", bridge.get(1, 1, 0, 1), Double.doubleToLongBits(3));
    due("kind", bridge.get(1, 1, 0, 0), 7);
  }

  private static void putIs(RecordBridge bridge, int scheme, int row, int place, int kind, int why) {
    String at = "put " + scheme + " " + row + " " + place + " " + kind;
    due(at, bridge.put(scheme, row, place, kind, 1), false);
    due("why of " + at, bridge.why(), why);
    due("no act", bridge.has(3), 0);
  }

  private static void putRefused() {
    RecordBridge bridge = Checks.withBook(BOOK);
    putIs(bridge, 0, 4, 0, 10, -2);
    putIs(bridge, 0, 4, 99, 10, -2);
    putIs(bridge, 0, 0, 99, 10, -2);
    putIs(bridge, 1, 1, 99, 10, -2);
    putIs(bridge, 0, 4, 99, 8, -1);
    putIs(bridge, 0, 4, 0, 8, -2);
    putIs(bridge, 0, 4, 0, 9, -2);
    putIs(bridge, 0, 4, 99, 9, -1);
    putIs(bridge, 0, 4, 0, 5, -2);
    putIs(bridge, 1, 2, 0, 4, -2);
    putIs(bridge, 1, 2, 99, 4, -1);
    putIs(bridge, 1, 2, 0, 9, -2);
    putIs(bridge, 1, 2, 24, 10, -1);
    putIs(bridge, 1, 2, -1, 8, -1);
    putIs(bridge, 0, 8, 4, 10, -1);
    putIs(bridge, 0, 8, -1, 4, -1);
    putIs(bridge, 0, 7, 0, 10, -2);
    putIs(bridge, 0, 7, 99, 4, -2);
    putIs(bridge, 0, 6, 0, 10, -3);
    putIs(bridge, 1, 3, 99, 4, -3);
    putIs(bridge, 0, 6, 0, 11, -4);
    putIs(bridge, 0, 4, 0, -1, -4);
    putIs(bridge, 0, 9, 0, 4, -4);
    putIs(bridge, 0, -1, 0, 4, -4);
    putIs(bridge, 2, 8, 0, 4, -4);
    putIs(bridge, -1, 8, 0, 4, -4);
  }

  private static void wordTold(RecordBridge bridge, long v, String letters) {
    due("put " + v, bridge.put(1, 2, 23, 8, v), true);
    due("got " + v, bridge.get(1, 2, 23, 1), Checks.word(letters));
    due("kind", bridge.get(1, 2, 23, 0), 8);
  }

  private static void words() {
    RecordBridge bridge = Checks.withBook(BOOK);
    due("an empty word at first", bridge.get(1, 2, 23, 0), 8);
    due("an empty word at first", bridge.get(1, 2, 23, 1), 0);
    wordTold(bridge, Checks.word("abcdefgh"), "abcdefgh");
    wordTold(bridge, Checks.word("zzzzzzzz"), "zzzzzzzz");
    wordTold(bridge, 1L << 40, "");
    wordTold(bridge, 1L << 40 | 3, "c");
    wordTold(bridge, (1L << 35) + 2, "ab");
    wordTold(bridge, 27 << 5 | 31, "");
    wordTold(bridge, 1 << 10 | 27 << 5 | 26, "az");
    wordTold(bridge, -1, "");
    wordTold(bridge, ~0L << 5 | 4, "d");
    bridge.make(1);
    bridge.put(1, 2, 1, 8, 77);
    bridge.put(1, 2, 1, 10, 77);
    due("nothing", bridge.get(1, 2, 1, 0), 10);
    due("nothing", bridge.get(1, 2, 1, 1), 0);
    due("nothing is an empty word", bridge.cell(1, 2, 0, 1), 0);
    due("a copy", bridge.copy(1, 0), 1);
    due("alike", bridge.unlike(1, 0, 1), 0);
    bridge.put(1, 2, 4, 8, 0);
    due("alike", bridge.unlike(1, 0, 1), 0);
    due("an empty word", bridge.get(1, 2, 4, 0), 8);
  }

  private static void getIs(RecordBridge bridge, int scheme, int row, int place, int what, int why) {
    String at = "get " + scheme + " " + row + " " + place + " " + what;
    due(at, bridge.get(scheme, row, place, what), NOTHING);
    due("why of " + at, bridge.why(), why);
  }

  private static void getRefused() {
    RecordBridge bridge = Checks.withBook(BOOK);
    getIs(bridge, 0, 4, 16, 0, -1);
    getIs(bridge, 0, 4, -1, 1, -1);
    getIs(bridge, 1, 2, 24, 0, -1);
    getIs(bridge, 0, 8, 4, 0, -1);
    getIs(bridge, 0, 7, 99, 0, -2);
    getIs(bridge, 0, 6, 99, 0, -3);
    getIs(bridge, 1, 3, 0, 0, -3);
    getIs(bridge, 0, 9, 0, 0, -4);
    getIs(bridge, 2, 0, 0, 0, -4);
    getIs(bridge, -1, 0, 0, 0, -4);
    getIs(bridge, 0, 4, 0, 2, -4);
    getIs(bridge, 0, 4, 0, -1, -4);
    for (int row = 0; row < 6; row++) {
      due("kind", bridge.get(0, row, 7, 0), row);
      due("why", bridge.why(), 0);
    }
  }

  private static void cells() {
    RecordBridge bridge = Checks.withBook(BOOK);
    due("no record", bridge.cell(0, 4, 0, 0), NOTHING);
    bridge.make(0);
    bridge.make(0);
    bridge.write(0, 4, 3, 4, -9);
    bridge.write(0, 4, 4, 4, 55);
    due("a cell", bridge.cell(0, 4, 1, 1), -9);
    due("another one", bridge.cell(0, 4, 1, 0), 0);
    due("no record", bridge.cell(0, 4, 2, 0), NOTHING);
    due("no record", bridge.cell(0, 4, -1, 0), NOTHING);
    due("no cell", bridge.cell(0, 4, 0, 2), NOTHING);
    due("no cell", bridge.cell(0, 4, 0, -1), NOTHING);
    due("no cell", bridge.cell(0, 3, 0, 1), NOTHING);
    due("no field", bridge.cell(0, 6, 0, 0), NOTHING);
    due("no field", bridge.cell(0, 8, 0, 0), NOTHING);
    due("no field", bridge.cell(0, -1, 0, 0), NOTHING);
    due("no scheme", bridge.cell(2, 0, 0, 0), NOTHING);
    due("no scheme", bridge.cell(-1, 0, 0, 0), NOTHING);
    due("why stays", bridge.why(), 0);
  }

  private static void unlikeCells() {
    RecordBridge bridge = Checks.withBook(BOOK);
    bridge.make(0);
    bridge.make(0);
    due("alike", bridge.unlike(0, 0, 1), 0);
    bridge.write(0, 0, 1, 0, 1);
    bridge.write(0, 4, 3, 4, 1);
    bridge.write(0, 5, 0, 5, 1);
    due("unlike", bridge.unlike(0, 0, 1), 0b1100001);
    due("unlike", bridge.unlike(0, 1, 0), 0b1100001);
    due("itself", bridge.unlike(0, 1, 1), 0);
    due("no record", bridge.unlike(0, 0, 2), NOTHING);
    due("no record", bridge.unlike(0, 2, 0), NOTHING);
    due("no record", bridge.unlike(0, -1, 0), NOTHING);
    due("no record", bridge.unlike(1, 0, 0), NOTHING);
    due("no scheme", bridge.unlike(2, 0, 0), NOTHING);
    for (int i = 0; i < 2; i++) {
      bridge.make(1);
      bridge.make(1);
    }
    due("what other records hold counts for nothing", bridge.unlike(1, 0, 1), 0);
    String most = "int a times 4,int b times 4,int c times 4,int d times 4,int e times 4,int f times 4;";
    bridge = Checks.withBook("scheme s " + most);
    bridge.make(0);
    bridge.make(0);
    bridge.write(0, 5, 7, 4, 1);
    due("the last of most cells", bridge.unlike(0, 0, 1), 1 << 23);
  }
}
