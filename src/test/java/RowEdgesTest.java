/** Term II on values, kinds, rows, and promises 13 to 20: each sentence that names a boundary case. */
public final class RowEdgesTest {
  private static final Checks CHECKS = new Checks();
  private static final long NOTHING = RecordBridge.NOTHING;
  private static final String[] KINDS = {"bit", "byte", "char", "short", "int", "long", "float", "double", "word"};
  /** Scheme 0 has rows of kinds 0 .. 5, scheme 1 rows of kinds 6, 7, 8; some have more cells. */
  private static final String BOOK = "scheme s bit o,byte b,char c,short d,int i times 2,long l;"
      + "scheme t float f,double e times 4,word w times 3;scheme u int x;";
  private static final int[] FAR = {Integer.MIN_VALUE, -65536, -5, -4, -3, -2, 99, 65536, Integer.MAX_VALUE};

  public static void main(String[] args) {
    placesOfRows();
    recordsInRows();
    wholeNumbers();
    reals();
    words();
    nothingInWords();
    widening();
    rowsByNumber();
    orderOfRead();
    orderOfWrite();
    orderOfPut();
    lengths();
    reads();
    gets();
    writes();
    puts();
    whys();
    cells();
    unlikeCells();
    CHECKS.close("RowEdgesTest");
  }

  private static void sentence(String words) {
    CHECKS.sentence(words);
  }

  private static void due(String what, long got, long want) {
    CHECKS.due(what, got, want);
  }

  private static void due(String what, boolean got, boolean want) {
    CHECKS.due(what, got, want);
  }

  private static long word(String letters) {
    return Checks.word(letters);
  }

  private static int schemeOf(int kind) {
    return kind < 6 ? 0 : 1;
  }

  private static int rowOf(int kind) {
    return kind < 6 ? kind : kind - 6;
  }

  // ---- term II: rows for eight records

  private static void placesOfRows() {
    sentence("each of its FIELDS a ROW for 8 RECORDS, RECORD by RECORD its CELLS "
        + "(8 times so many PLACES; all are 0, no, empty words at first)");
    for (int kind = 0; kind < 9; kind++) {
      for (int cells = 1; cells <= 4; cells++) {
        RecordBridge bridge = Checks.withBook("scheme s " + KINDS[kind] + " x times " + cells + ";");
        due("length", bridge.length(0, 0), 8 * cells);
        for (int place = 0; place < 8 * cells; place++) {
          due("kind at first", bridge.get(0, 0, place, 0), kind);
          due("number at first", bridge.get(0, 0, place, 1), 0);
        }
        due("ahead of the first place", bridge.get(0, 0, -1, 1), NOTHING);
        due("behind the last place", bridge.get(0, 0, 8 * cells, 1), NOTHING);
      }
    }
  }

  private static void recordsInRows() {
    sentence("RECORD by RECORD its CELLS");
    RecordBridge bridge = Checks.withBook("scheme s int a,int b times 3,int c times 4;");
    int[] cells = {1, 3, 4};
    for (int record = 0; record < 8; record++) {
      bridge.make(0);
    }
    for (int field = 0; field < 3; field++) {
      for (int place = 0; place < 8 * cells[field]; place++) {
        bridge.write(0, field, place, 4, 100 * field + place + 1);
      }
    }
    for (int field = 0; field < 3; field++) {
      for (int record = 0; record < 8; record++) {
        for (int cell = 0; cell < cells[field]; cell++) {
          due("cell " + field + " " + record + " " + cell, bridge.cell(0, field, record, cell),
              100 * field + record * cells[field] + cell + 1);
        }
      }
    }
    sentence("Each SCHEME has RECORDS, 0 on, 8 at most");
    due("a ninth one", bridge.make(0), -1);
    due("a cell of it", bridge.cell(0, 0, 8, 0), NOTHING);
    bridge = Checks.withBook("scheme s int a;scheme t int a;scheme u int a;");
    for (int record = 0; record < 8; record++) {
      for (int scheme = 0; scheme < 3; scheme++) {
        due("of each", bridge.make(scheme), record);
      }
    }
    due("of all", bridge.has(2), 24);
    for (int scheme = 0; scheme < 3; scheme++) {
      bridge.write(scheme, 0, 7, 4, 10 + scheme);
      bridge.write(scheme, 0, 0, 4, 20 + scheme);
    }
    for (int scheme = 0; scheme < 3; scheme++) {
      due("the last of each", bridge.cell(scheme, 0, 7, 0), 10 + scheme);
      due("the first of each", bridge.cell(scheme, 0, 0, 0), 20 + scheme);
    }
  }

  // ---- term II: values

  /** A number told as a kind, written and put, as a thing too: as which number it is told. */
  private static void told(int kind, long v, long want) {
    RecordBridge bridge = Checks.withBook(BOOK);
    String at = KINDS[kind] + " of " + v;
    due("put " + at, bridge.put(schemeOf(kind), rowOf(kind), 1, kind, v), true);
    due("got " + at, bridge.get(schemeOf(kind), rowOf(kind), 1, 1), want);
    due("its kind", bridge.get(schemeOf(kind), rowOf(kind), 1, 0), kind);
    due("the place ahead", bridge.get(schemeOf(kind), rowOf(kind), 0, 1), 0);
    due("the place behind", bridge.get(schemeOf(kind), rowOf(kind), 2, 1), 0);
    due("put as a thing: " + at, bridge.put(0, 8, 2, kind, v), true);
    due("kind of the thing", bridge.get(0, 8, 2, 0), kind);
    due("number of the thing", bridge.get(0, 8, 2, 1), want);
    if (kind < 8) {
      due("write " + at, bridge.write(schemeOf(kind), rowOf(kind), 3, kind, v), true);
      due("read " + at, bridge.read(schemeOf(kind), rowOf(kind), 3, kind), want);
    }
  }

  private static void wholeNumbers() {
    sentence("bit whether it is not 0");
    long[] yes = {1, -1, 2, 256, 1L << 32, Long.MIN_VALUE, Long.MAX_VALUE};
    told(0, 0, 0);
    for (long v : yes) {
      told(0, v, 1);
    }
    sentence("byte, char, short, int, long as casts make it");
    long[] edges = {0, 1, -1, 127, 128, -128, -129, 255, 256, 32767, 32768, -32768, -32769, 65535, 65536, -65536,
        Integer.MAX_VALUE, 1L << 31, Integer.MIN_VALUE, -(1L << 31) - 1, 1L << 32, Long.MAX_VALUE, Long.MIN_VALUE,
        NOTHING};
    for (long v : edges) {
      told(1, v, (byte) v);
      told(2, v, (char) v);
      told(3, v, (short) v);
      told(4, v, (int) v);
      told(5, v, v);
    }
    sentence("AS A NUMBER (a long) it is told so: bit 1, 0; byte, char, short, int, long themselves");
    told(0, 77, 1);
    told(1, 128, -128);
    told(2, -1, 65535);
    told(3, 32768, -32768);
    told(4, 2147483648L, -2147483648L);
    told(5, Long.MIN_VALUE, Long.MIN_VALUE);
  }

  private static void reals() {
    sentence("float v as a FLOAT by 16, double v as a DOUBLE by 16");
    told(6, 0, 0);
    told(6, 16, Float.floatToIntBits(1f));
    told(6, 1, Float.floatToIntBits(0.0625f));
    told(7, 16, Double.doubleToLongBits(1.0));
    told(7, 1, Double.doubleToLongBits(0.0625));
    told(7, 0, 0);
    told(6, 16777217, Float.floatToIntBits(1048576f));
    told(6, 16777219, Float.floatToIntBits(1048576.25f));
    told(7, 9007199254740993L, Double.doubleToLongBits(562949953421312.0));
    told(7, 9007199254740995L, Double.doubleToLongBits(562949953421312.25));
    sentence("float its bits (floatToIntBits), double its bits (doubleToLongBits)");
    told(6, -16, -1082130432);
    told(7, -16, -4616189618054758400L);
    long[] edges = {Long.MAX_VALUE, Long.MIN_VALUE, -1, 15, 17, -255, 1 << 24, (1 << 25) - 1, (1L << 53) - 1,
        (1L << 54) - 1, (1L << 62) + 1, 123456789012345678L, -987654321098765432L};
    for (long v : edges) {
      told(6, v, Float.floatToIntBits((float) v / 16f));
      told(7, v, Double.doubleToLongBits((double) v / 16.0));
    }
  }

  private static void words() {
    sentence("a word 0 to 8 letters a .. z");
    told(8, 0, 0);
    told(8, 1, 1);
    told(8, 26, 26);
    told(8, word("zzzzzzzz"), word("zzzzzzzz"));
    told(8, word("aaaaaaaa"), word("aaaaaaaa"));
    sentence("word its letters, 1 .. 26, the first the highest, 32 times each ahead of the next (none: 0)");
    told(8, 34, 34);
    told(8, 67, 67);
    due("the second thing at first", Checks.withBook(BOOK).get(0, 8, 1, 1), 1 * 32 + 2);
    sentence("word: of its lowest 40 bits eight groups of five, the highest first, those that are 1 .. 26, as letters");
    told(8, 1L << 40, 0);
    told(8, 1L << 35, 1);
    told(8, (1L << 40) + 5, 5);
    told(8, (31L << 35) + 5, 5);
    told(8, -1L << 40, 0);
    told(8, (-1L << 40) + word("abcdefgh"), word("abcdefgh"));
    told(8, 27, 0);
    told(8, 31, 0);
    told(8, 32, 1);
    told(8, 26L << 35, 26);
    told(8, 27L << 35, 0);
    told(8, (1L << 35) + (3L << 20) + 2, word("acb"));
    told(8, (2L << 30) + (27L << 25) + (26L << 20) + (28L << 15) + (29L << 10) + (30L << 5) + 1, word("bza"));
    told(8, -1, 0);
    told(8, Long.MIN_VALUE, 0);
    told(8, Long.MAX_VALUE, 0);
  }

  private static void nothingInWords() {
    sentence("Nothing in a ROW of words counts as an empty word, but in get().");
    RecordBridge bridge = Checks.withBook("scheme s word w times 2,int i;scheme t word v,int n,bit o;"
        + "cross s to t v from w,n from i;cross t to s w from v;");
    bridge.make(0);
    bridge.make(0);
    bridge.put(0, 0, 0, 8, 5);
    due("a word", bridge.unlike(0, 0, 1), 1);
    bridge.put(0, 0, 0, 10, 5);
    due("got as nothing", bridge.get(0, 0, 0, 0), 10);
    due("of number 0", bridge.get(0, 0, 0, 1), 0);
    due("an empty word is one", bridge.get(0, 0, 1, 0), 8);
    due("a cell", bridge.cell(0, 0, 0, 0), 0);
    due("like an empty word", bridge.unlike(0, 0, 1), 0);
    due("alike", bridge.tells(0, 1), 2);
    due("round", bridge.round(0, 1, 0), 0);
    due("cross", bridge.cross(0, 0), 0);
    due("carried as an empty word", bridge.get(1, 0, 0, 0), 8);
    due("origins", bridge.origins(0, 0), 3);
    bridge.put(1, 0, 0, 10, 0);
    due("origins of nothing", bridge.origins(0, 0), 3);
    bridge = Checks.withBook("scheme s word w;scheme t bit o,int n,double d;cross s to t o from w,n from w,d from w;");
    bridge.make(0);
    bridge.put(0, 0, 0, 10, 0);
    bridge.cross(0, 0);
    due("without letters", bridge.cell(1, 0, 0, 0), 0);
    due("without digits", bridge.cell(1, 1, 0, 0), 0);
    due("without digits", bridge.cell(1, 2, 0, 0), 0);
  }

  private static void widening() {
    String[] sentences = {"a WIDENS to b: if they are one", "byte to short, int, long, float, double",
        "short, char to int, long, float, double", "short, char to int, long, float, double",
        "int to long, float, double", "long to float, double", "float to double", "KIND a WIDENS to b",
        "KIND a WIDENS to b"};
    String[] wide = {"0", "134567", "24567", "34567", "4567", "567", "67", "7", "8"};
    for (int from = 0; from < 9; from++) {
      sentence(sentences[from]);
      for (int to = 0; to < 9; to++) {
        RecordBridge bridge = Checks.withBook(BOOK);
        boolean goes = wide[from].indexOf('0' + to) >= 0;
        due("widens " + from + " " + to, bridge.widens(from, to), goes ? 1 : 0);
        due("put", bridge.put(schemeOf(to), rowOf(to), 0, from, 1), goes);
        if (from < 8 && to < 8) {
          due("write", bridge.write(schemeOf(to), rowOf(to), 0, from, 1), goes);
          due("read", bridge.read(schemeOf(from), rowOf(from), 0, to) != NOTHING, goes);
        }
      }
    }
  }

  // ---- term II: rows by number, and by what a place is refused

  private static void thing(RecordBridge bridge, int place, int kind, long number) {
    due("kind of thing " + place, bridge.get(0, 8, place, 0), kind);
    due("number of thing " + place, bridge.get(0, 8, place, 1), number);
  }

  private static void rowsByNumber() {
    sentence("ROWS by number: 0 .. 5 those of FIELDS (of fewer FIELDS: as 6)");
    RecordBridge bridge = Checks.withBook(BOOK);
    for (int row = 0; row < 6; row++) {
      due("row " + row, bridge.length(0, row), row == 4 ? 16 : 8);
      due("of one field, row " + row, bridge.length(2, row), row == 0 ? 8 : -3);
      due("read", bridge.read(2, row, 0, 4), row == 0 ? 0 : NOTHING);
      due("why", bridge.why(), row == 0 ? 0 : -3);
      due("put", bridge.put(2, row, 0, 4, 1), row == 0);
      due("why", bridge.why(), row == 0 ? 0 : -3);
    }
    sentence("6 none at all");
    due("length", bridge.length(0, 6), -3);
    sentence("7 what is no ROW");
    due("length", bridge.length(0, 7), -2);
    sentence("8 a ROW of 4 THINGS: at first an INT 7, a word \"ab\", nothing, a BIT yes");
    due("length", bridge.length(0, 8), 4);
    thing(bridge, 0, 4, 7);
    thing(bridge, 1, 8, 34);
    thing(bridge, 2, 10, 0);
    thing(bridge, 3, 0, 1);
    due("a fifth thing", bridge.get(0, 8, 4, 0), NOTHING);
    due("a thing ahead", bridge.get(0, 8, -1, 0), NOTHING);
    due("row 9", bridge.length(0, 9), -4);
    due("row -1", bridge.length(0, -1), -4);
  }

  private static void readIs(RecordBridge bridge, int scheme, int row, int place, int kind, int why) {
    String at = "read " + scheme + " " + row + " " + place + " " + kind;
    due(at, bridge.read(scheme, row, place, kind), why == 0 ? 0 : NOTHING);
    due("why of " + at, bridge.why(), why);
  }

  private static void orderOfRead() {
    RecordBridge bridge = Checks.withBook(BOOK);
    sentence("-3 there is no ROW (6)");
    readIs(bridge, 0, 6, 0, 4, -3);
    readIs(bridge, 0, 6, -1, 4, -3);
    readIs(bridge, 0, 6, 8, 0, -3);
    readIs(bridge, 2, 1, 99, 4, -3);
    readIs(bridge, 1, 3, 0, 7, -3);
    sentence("-2 what it is (7; a ROW of words or THINGS, where a KIND 0 .. 7 is asked or told)");
    for (int kind = 0; kind < 8; kind++) {
      readIs(bridge, 0, 7, 0, kind, -2);
      readIs(bridge, 0, 7, -1, kind, -2);
      readIs(bridge, 1, 2, 0, kind, -2);
      readIs(bridge, 1, 2, 24, kind, -2);
      readIs(bridge, 1, 2, -1, kind, -2);
      readIs(bridge, 0, 8, kind % 4, kind, -2);
      readIs(bridge, 0, 8, 4, kind, -2);
    }
    sentence("-1 no such PLACE");
    readIs(bridge, 0, 4, -1, 4, -1);
    readIs(bridge, 0, 4, 16, 4, -1);
    readIs(bridge, 0, 4, 15, 4, 0);
    readIs(bridge, 0, 0, 8, 0, -1);
    readIs(bridge, 0, 0, 7, 0, 0);
    readIs(bridge, 1, 1, 32, 7, -1);
    readIs(bridge, 1, 1, 31, 7, 0);
    sentence("read: that of the ROW doesn't WIDEN to it");
    readIs(bridge, 0, 4, 15, 3, -2);
    readIs(bridge, 0, 0, 0, 1, -2);
    readIs(bridge, 0, 1, 0, 0, -2);
    readIs(bridge, 0, 2, 0, 3, -2);
    readIs(bridge, 1, 0, 0, 5, -2);
    readIs(bridge, 1, 1, 0, 6, -2);
    sentence("In this order.");
    readIs(bridge, 0, 4, 16, 3, -1);
    readIs(bridge, 0, 0, -1, 1, -1);
    readIs(bridge, 0, 2, 8, 1, -1);
  }

  private static void writeIs(RecordBridge bridge, int scheme, int row, int place, int kind, int why) {
    String at = "write " + scheme + " " + row + " " + place + " " + kind;
    int acts = bridge.has(3);
    due(at, bridge.write(scheme, row, place, kind, 5), why == 0);
    due("why of " + at, bridge.why(), why);
    due("acts", bridge.has(3), why == 0 ? acts + 1 : acts);
  }

  private static void orderOfWrite() {
    RecordBridge bridge = Checks.withBook(BOOK);
    sentence("-3 there is no ROW (6)");
    writeIs(bridge, 0, 6, 99, 4, -3);
    writeIs(bridge, 2, 1, 99, 4, -3);
    sentence("-2 what it is (7; a ROW of words or THINGS, where a KIND 0 .. 7 is asked or told)");
    for (int kind = 0; kind < 8; kind++) {
      writeIs(bridge, 0, 7, -1, kind, -2);
      writeIs(bridge, 1, 2, 24, kind, -2);
      writeIs(bridge, 1, 2, 0, kind, -2);
      writeIs(bridge, 0, 8, 4, kind, -2);
      writeIs(bridge, 0, 8, 0, kind, -2);
    }
    sentence("-1 no such PLACE");
    writeIs(bridge, 0, 4, -1, 4, -1);
    writeIs(bridge, 0, 4, 16, 4, -1);
    writeIs(bridge, 0, 4, 15, 4, 0);
    writeIs(bridge, 0, 0, 8, 0, -1);
    writeIs(bridge, 0, 0, 7, 0, 0);
    sentence("written: it doesn't WIDEN to that of the ROW");
    writeIs(bridge, 0, 4, 15, 5, -2);
    writeIs(bridge, 0, 4, 15, 0, -2);
    writeIs(bridge, 0, 0, 0, 1, -2);
    writeIs(bridge, 0, 2, 0, 1, -2);
    writeIs(bridge, 1, 0, 0, 7, -2);
    writeIs(bridge, 1, 0, 0, 5, 0);
    sentence("In this order.");
    writeIs(bridge, 0, 4, 16, 5, -1);
    writeIs(bridge, 0, 0, -1, 1, -1);
  }

  private static void putIs(RecordBridge bridge, int scheme, int row, int place, int kind, int why) {
    String at = "put " + scheme + " " + row + " " + place + " " + kind;
    int acts = bridge.has(3);
    due(at, bridge.put(scheme, row, place, kind, 5), why == 0);
    due("why of " + at, bridge.why(), why);
    due("acts", bridge.has(3), why == 0 ? Math.min(acts + 1, 20) : acts);
  }

  private static void orderOfPut() {
    RecordBridge bridge = Checks.withBook(BOOK);
    sentence("put: a THING that the ROW can't take (of a ROW of KIND 0 .. 7: nothing (this ahead of -1), "
        + "a word, an OWN thing, a KIND that doesn't WIDEN to it");
    for (int kind = 0; kind < 8; kind++) {
      int scheme = schemeOf(kind);
      int row = rowOf(kind);
      int behind = bridge.length(scheme, row);
      putIs(bridge, scheme, row, 0, 10, -2);
      putIs(bridge, scheme, row, -1, 10, -2);
      putIs(bridge, scheme, row, behind, 10, -2);
      for (int thing = 8; thing < 10; thing++) {
        putIs(bridge, scheme, row, 0, thing, -2);
        putIs(bridge, scheme, row, -1, thing, -1);
        putIs(bridge, scheme, row, behind, thing, -1);
      }
      for (int thing = 0; thing < 8; thing++) {
        boolean goes = bridge.widens(thing, kind) == 1;
        putIs(bridge, scheme, row, behind, thing, -1);
        putIs(bridge, scheme, row, behind - 1, thing, goes ? 0 : -2);
      }
    }
    sentence("of a ROW of words all but words and nothing");
    for (int thing = 0; thing < 11; thing++) {
      boolean goes = thing == 8 || thing == 10;
      putIs(bridge, 1, 2, 23, thing, goes ? 0 : -2);
      putIs(bridge, 1, 2, 24, thing, -1);
      putIs(bridge, 1, 2, -1, thing, -1);
    }
    sentence("THINGS take all");
    for (int thing = 0; thing < 11; thing++) {
      putIs(bridge, 0, 8, thing % 4, thing, 0);
      due("its kind", bridge.get(0, 8, thing % 4, 0), thing);
      putIs(bridge, 0, 8, 4, thing, -1);
      putIs(bridge, 0, 8, -1, thing, -1);
      putIs(bridge, 0, 6, 4, thing, -3);
      putIs(bridge, 2, 1, -1, thing, -3);
      putIs(bridge, 0, 7, 4, thing, -2);
    }
  }

  // ---- promises 13 to 20

  private static void lengths() {
    RecordBridge bridge = Checks.withBook(BOOK);
    sentence("How many PLACES a ROW of a SCHEME has; -3, -2 (6, 7) as REFUSED");
    int[] due = {8, 32, 24, -3, -3, -3, -3, -2, 4};
    for (int row = 0; row < 9; row++) {
      due("length " + row, bridge.length(1, row), due[row]);
      due("why", bridge.why(), Math.min(due[row], 0));
    }
    sentence("-4 when there is no such SCHEME, ROW.");
    for (int far : FAR) {
      due("length of row " + far, bridge.length(0, far), -4);
      due("why", bridge.why(), -4);
      due("length of scheme " + far, bridge.length(far, 0), -4);
      due("length of scheme " + far, bridge.length(far, 8), -4);
      due("length of scheme " + far, bridge.length(far, 6), -4);
    }
    due("row 9", bridge.length(0, 9), -4);
    due("row -1", bridge.length(0, -1), -4);
    due("scheme 3", bridge.length(3, 7), -4);
    due("scheme -1", bridge.length(-1, 0), -4);
  }

  private static void reads() {
    RecordBridge bridge = Checks.withBook(BOOK);
    sentence("A PLACE of a ROW read as a KIND 0 .. 7: AS A NUMBER of that KIND");
    bridge.write(0, 1, 7, 1, -128);
    long[] ofByte = {NOTHING, -128, NOTHING, -128, -128, -128, Float.floatToIntBits(-128f),
        Double.doubleToLongBits(-128)};
    bridge.write(0, 5, 7, 5, Long.MIN_VALUE);
    long[] ofLong = {NOTHING, NOTHING, NOTHING, NOTHING, NOTHING, Long.MIN_VALUE,
        Float.floatToIntBits((float) Long.MIN_VALUE), Double.doubleToLongBits((double) Long.MIN_VALUE)};
    for (int kind = 0; kind < 8; kind++) {
      due("a byte as " + kind, bridge.read(0, 1, 7, kind), ofByte[kind]);
      due("a long as " + kind, bridge.read(0, 5, 7, kind), ofLong[kind]);
    }
    bridge.write(0, 5, 7, 5, NOTHING);
    due("a long that is the number of nothing", bridge.read(0, 5, 7, 5), NOTHING);
    due("why", bridge.why(), 0);
    sentence("NOTHING, when it is REFUSED (why() tells by what), there is no such SCHEME, ROW, KIND (why() is -4 "
        + "then).");
    for (int far : FAR) {
      readIs(bridge, far, 0, 0, 0, -4);
      readIs(bridge, 0, far, 0, 0, -4);
      readIs(bridge, 0, 0, 0, far, -4);
      readIs(bridge, 0, 0, far, 0, -1);
    }
    readIs(bridge, 3, 0, 0, 4, -4);
    readIs(bridge, -1, 0, 0, 4, -4);
    readIs(bridge, 0, 9, 0, 4, -4);
    readIs(bridge, 0, -1, 0, 4, -4);
    readIs(bridge, 0, 4, 0, 8, -4);
    readIs(bridge, 0, 4, 0, -1, -4);
    readIs(bridge, 1, 2, 0, 8, -4);
    readIs(bridge, 0, 4, 99, 8, -4);
  }

  private static void getIs(RecordBridge bridge, int scheme, int row, int place, int what, int why) {
    String at = "get " + scheme + " " + row + " " + place + " " + what;
    due(at, bridge.get(scheme, row, place, what), NOTHING);
    due("why of " + at, bridge.why(), why);
  }

  private static void gets() {
    RecordBridge bridge = Checks.withBook(BOOK);
    sentence("What a PLACE of a ROW holds, got as a thing: its KIND (what 0; of THINGS: 4 an INT, 0 a BIT, 8 a "
        + "word, ..; "
        + "9 an OWN thing, 10 nothing), AS A NUMBER (1; of an OWN thing its number, of nothing 0)");
    for (int kind = 0; kind < 11; kind++) {
      due("put", bridge.put(0, 8, kind % 4, kind, 3), true);
      long[] numbers = {1, 3, 3, 3, 3, 3, Float.floatToIntBits(0.1875f), Double.doubleToLongBits(0.1875), 3, 3, 0};
      thing(bridge, kind % 4, kind, numbers[kind]);
      due("why", bridge.why(), 0);
    }
    for (int kind = 0; kind < 9; kind++) {
      due("of a row", bridge.get(schemeOf(kind), rowOf(kind), 7, 0), kind);
      due("why", bridge.why(), 0);
    }
    sentence("NOTHING likewise, or for others.");
    getIs(bridge, 0, 6, 0, 0, -3);
    getIs(bridge, 0, 6, -1, 1, -3);
    getIs(bridge, 2, 1, 99, 0, -3);
    getIs(bridge, 0, 7, 0, 0, -2);
    getIs(bridge, 0, 7, -1, 1, -2);
    getIs(bridge, 0, 4, 16, 0, -1);
    getIs(bridge, 0, 4, -1, 1, -1);
    getIs(bridge, 1, 2, 24, 0, -1);
    getIs(bridge, 0, 8, 4, 1, -1);
    getIs(bridge, 0, 8, -1, 0, -1);
    for (int far : FAR) {
      getIs(bridge, far, 0, 0, 0, -4);
      getIs(bridge, 0, far, 0, 1, -4);
      getIs(bridge, 0, 0, far, 0, -1);
      due("another what", bridge.get(0, 0, 0, far), NOTHING);
    }
    getIs(bridge, 3, 0, 0, 0, -4);
    getIs(bridge, -1, 8, 0, 0, -4);
    getIs(bridge, 0, 9, 0, 0, -4);
    getIs(bridge, 0, -1, 0, 0, -4);
    due("another what", bridge.get(0, 0, 0, 2), NOTHING);
    due("another what", bridge.get(0, 8, 0, -1), NOTHING);
  }

  private static void writes() {
    RecordBridge bridge = Checks.withBook(BOOK);
    sentence("A PLACE of a ROW is written as a KIND 0 .. 7: v TOLD as that: true");
    due("write", bridge.write(0, 4, 15, 1, 200), true);
    due("told as a byte, then an int", bridge.read(0, 4, 15, 4), -56);
    due("write", bridge.write(0, 5, 0, 2, -1), true);
    due("told as a char, then a long", bridge.read(0, 5, 0, 5), 65535);
    due("write", bridge.write(1, 1, 31, 6, 8), true);
    due("told as a float, then a double", bridge.read(1, 1, 31, 7), Double.doubleToLongBits(0.5));
    due("write", bridge.write(1, 1, 0, 4, 8), true);
    due("told as an int, then a double", bridge.read(1, 1, 0, 7), Double.doubleToLongBits(8));
    due("where no record is", bridge.has(2), 0);
    sentence("false (why() tells), when it is REFUSED, there are none such.");
    for (int far : FAR) {
      writeIs(bridge, far, 0, 0, 0, -4);
      writeIs(bridge, 0, far, 0, 0, -4);
      writeIs(bridge, 0, 0, 0, far, -4);
      writeIs(bridge, 0, 0, far, 0, -1);
    }
    writeIs(bridge, 3, 4, 0, 4, -4);
    writeIs(bridge, -1, 4, 0, 4, -4);
    writeIs(bridge, 0, 9, 0, 4, -4);
    writeIs(bridge, 0, -1, 0, 4, -4);
    writeIs(bridge, 1, 2, 0, 8, -4);
    writeIs(bridge, 0, 4, 0, 9, -4);
    writeIs(bridge, 0, 4, 0, -1, -4);
    due("the cell stays", bridge.read(0, 4, 0, 4), 0);
    due("another one stays", bridge.read(0, 4, 15, 4), -56);
  }

  private static void puts() {
    RecordBridge bridge = Checks.withBook(BOOK);
    sentence("A PLACE of a ROW is put: a thing of KIND 0 .. 8, v TOLD as that, an OWN thing of number v (9; v as an "
        + "int), "
        + "nothing (10): true");
    due("a word", bridge.put(1, 2, 23, 8, word("z")), true);
    due("got", bridge.get(1, 2, 23, 1), 26);
    due("a byte for a double", bridge.put(1, 1, 31, 1, 255), true);
    due("got", bridge.get(1, 1, 31, 1), Double.doubleToLongBits(-1));
    long[] owns = {0, 5, -1, Integer.MAX_VALUE, 1L << 31, 1L << 32, (1L << 32) + 5, Long.MIN_VALUE, Long.MAX_VALUE};
    for (long v : owns) {
      due("own", bridge.put(0, 8, 3, 9, v), true);
      thing(bridge, 3, 9, (int) v);
    }
    due("nothing", bridge.put(0, 8, 3, 10, 77), true);
    thing(bridge, 3, 10, 0);
    due("nothing for a word", bridge.put(1, 2, 0, 10, 77), true);
    due("got", bridge.get(1, 2, 0, 0), 10);
    due("its number", bridge.get(1, 2, 0, 1), 0);
    sentence("false likewise.");
    for (int far : FAR) {
      putIs(bridge, far, 8, 0, 4, -4);
      putIs(bridge, 0, far, 0, 4, -4);
      putIs(bridge, 0, 8, 0, far, -4);
      putIs(bridge, 0, 8, far, 4, -1);
    }
    putIs(bridge, 3, 8, 0, 4, -4);
    putIs(bridge, -1, 8, 0, 4, -4);
    putIs(bridge, 0, 9, 0, 4, -4);
    putIs(bridge, 0, -1, 0, 4, -4);
    putIs(bridge, 0, 8, 0, 11, -4);
    putIs(bridge, 0, 8, 0, -1, -4);
    putIs(bridge, 0, 7, 0, 10, -2);
    putIs(bridge, 0, 6, 0, 10, -3);
    due("the thing stays", bridge.get(0, 8, 0, 1), 7);
  }

  private static void whys() {
    sentence("Of the latest length(), read(), get(), write(), put(): by what it was REFUSED; 0 if it was not, or "
        + "ahead of any.");
    RecordBridge bridge = new RecordBridge();
    due("ahead of any", bridge.why(), 0);
    bridge.length(0, 0);
    due("no scheme", bridge.why(), -4);
    Checks.book(bridge, BOOK);
    due("a book is none of these", bridge.why(), -4);
    due("length", bridge.length(0, 0), 8);
    due("not refused", bridge.why(), 0);
    bridge.length(0, 6);
    due("length", bridge.why(), -3);
    bridge.read(0, 4, 0, 4);
    due("not refused", bridge.why(), 0);
    bridge.read(0, 4, 16, 4);
    due("read", bridge.why(), -1);
    bridge.get(0, 4, 0, 0);
    due("not refused", bridge.why(), 0);
    bridge.get(0, 7, 0, 0);
    due("get", bridge.why(), -2);
    bridge.write(0, 4, 0, 4, 1);
    due("not refused", bridge.why(), 0);
    bridge.write(0, 9, 0, 4, 1);
    due("write", bridge.why(), -4);
    bridge.put(0, 8, 0, 9, 1);
    due("not refused", bridge.why(), 0);
    bridge.put(0, 4, 99, 9, 1);
    due("put", bridge.why(), -1);
    due("asked again", bridge.why(), -1);
    bridge.cell(9, 9, 9, 9);
    bridge.unlike(9, 9, 9);
    bridge.make(9);
    bridge.cross(9, 9);
    bridge.drop(9, 9);
    bridge.make(0);
    bridge.undo();
    bridge.cell(0, 4, 0, 0);
    due("others leave it", bridge.why(), -1);
  }

  private static void cells() {
    sentence("A CELL of a RECORD, AS A NUMBER of its KIND");
    RecordBridge bridge = Checks.withBook(BOOK);
    bridge.make(0);
    bridge.make(1);
    bridge.write(0, 0, 0, 0, 9);
    bridge.write(0, 2, 0, 2, -1);
    bridge.write(0, 4, 1, 4, -7);
    bridge.write(1, 0, 0, 6, -16);
    bridge.write(1, 1, 3, 7, -16);
    bridge.put(1, 2, 2, 8, 34);
    due("bit", bridge.cell(0, 0, 0, 0), 1);
    due("char", bridge.cell(0, 2, 0, 0), 65535);
    due("int", bridge.cell(0, 4, 0, 1), -7);
    due("float", bridge.cell(1, 0, 0, 0), Float.floatToIntBits(-1f));
    due("double", bridge.cell(1, 1, 0, 3), Double.doubleToLongBits(-1.0));
    due("word", bridge.cell(1, 2, 0, 2), 34);
    sentence("NOTHING when there is none such.");
    int[][] none = {{0, 4, 0, 2}, {0, 4, 0, -1}, {0, 4, 1, 0}, {0, 4, -1, 0}, {0, 6, 0, 0}, {0, 7, 0, 0}, {0, 8, 0, 0},
        {0, -1, 0, 0}, {1, 3, 0, 0}, {3, 0, 0, 0}, {-1, 0, 0, 0}, {2, 0, 0, 0}, {0, 0, 0, 1}, {1, 1, 0, 4}};
    for (int[] at : none) {
      due("cell " + at[0] + " " + at[1] + " " + at[2] + " " + at[3], bridge.cell(at[0], at[1], at[2], at[3]), NOTHING);
    }
    for (int far : FAR) {
      due("far scheme", bridge.cell(far, 0, 0, 0), NOTHING);
      due("far field", bridge.cell(0, far, 0, 0), NOTHING);
      due("far record", bridge.cell(0, 0, far, 0), NOTHING);
      due("far cell", bridge.cell(0, 0, 0, far), NOTHING);
    }
    bridge.drop(0, 0);
    due("a record that is dropped", bridge.cell(0, 4, 0, 0), NOTHING);
  }

  private static void unlikeCells() {
    sentence("CELLS of two RECORDS of a SCHEME, of FIELD 0 on, that are unlike, as bits by their order in a RECORD");
    RecordBridge bridge = Checks.withBook("scheme s int a times 4,bit b times 4,float c times 4,word d times 4,"
        + "double e times 4,long f times 4;");
    bridge.make(0);
    bridge.make(0);
    due("alike", bridge.unlike(0, 0, 1), 0);
    due("one record", bridge.unlike(0, 1, 1), 0);
    for (int field = 0; field < 6; field++) {
      for (int cell = 0; cell < 4; cell++) {
        bridge.put(0, field, 4 + cell, bridge.field(0, field, 0), 1);
        due("unlike", bridge.unlike(0, 0, 1), 1 << 4 * field + cell);
        due("the other way", bridge.unlike(0, 1, 0), 1 << 4 * field + cell);
        bridge.undo();
      }
    }
    for (int field = 0; field < 6; field++) {
      for (int cell = 0; cell < 4; cell++) {
        bridge.put(0, field, cell, bridge.field(0, field, 0), 1);
      }
    }
    due("all unlike", bridge.unlike(0, 0, 1), (1 << 24) - 1);
    sentence("NOTHING when there are none such.");
    int[][] none = {{0, 0, 2}, {0, 2, 0}, {0, -1, 0}, {0, 0, -1}, {1, 0, 0}, {-1, 0, 0}, {0, 2, 2}};
    for (int[] at : none) {
      due("unlike " + at[0] + " " + at[1] + " " + at[2], bridge.unlike(at[0], at[1], at[2]), NOTHING);
    }
    for (int far : FAR) {
      due("far scheme", bridge.unlike(far, 0, 0), NOTHING);
      due("far record", bridge.unlike(0, far, 0), NOTHING);
      due("far record", bridge.unlike(0, 0, far), NOTHING);
    }
  }
}
