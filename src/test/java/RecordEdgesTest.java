/** Term II on acts and draws, promises 21 to 24 and 35 to 37: each sentence that names a boundary case. */
public final class RecordEdgesTest {
  private static final Checks CHECKS = new Checks();
  private static final long NOTHING = RecordBridge.NOTHING;
  private static final String BOOK = "scheme s int i times 2,word w;scheme t bit o,byte b;scheme u long l;"
      + "cross s to t o from i,b from i;cross t to u l from b;";
  private static final int[] FAR = {Integer.MIN_VALUE, -65536, -3, -2, -1, 21, 65536, Integer.MAX_VALUE};
  private static long drawn;

  public static void main(String[] args) {
    makes();
    copies();
    drops();
    dropsOfTheLast();
    draws();
    bySeed();
    bySeedOfEachKind();
    bySeedWhereFull();
    chances();
    acts();
    twentyActs();
    undoes();
    undoneActs();
    undoneDrops();
    undoesLeave();
    seeds();
    statuses();
    farStatuses();
    CHECKS.close("RecordEdgesTest");
  }

  private static void sentence(String words) {
    CHECKS.sentence(words);
  }

  private static void due(String what, long got, long want) {
    CHECKS.due(what, got, want);
  }

  private static void due(String what, boolean got, boolean want) {
    CHECKS.due(what, got, want);
  }

  // ---- records

  private static void makes() {
    sentence("A new RECORD (CELLS 0, no, empty): its number");
    RecordBridge bridge = Checks.withBook("scheme s bit a,float b,word c times 2,double d;scheme t int i;");
    for (int place = 0; place < 8; place++) {
      bridge.write(0, 0, place, 0, 1);
      bridge.write(0, 1, place, 6, 1);
      bridge.put(0, 2, 2 * place, 10, 0);
      bridge.put(0, 2, 2 * place + 1, 8, 5);
      bridge.write(0, 3, place, 7, 1);
    }
    for (int i = 0; i < 8; i++) {
      due("make", bridge.make(0), i);
      due("its bit", bridge.cell(0, 0, i, 0), 0);
      due("its float", bridge.cell(0, 1, i, 0), 0);
      due("its word", bridge.get(0, 2, 2 * i, 0), 8);
      due("its other word", bridge.get(0, 2, 2 * i + 1, 1), 0);
      due("its double", bridge.cell(0, 3, i, 0), 0);
      due("the place behind", bridge.get(0, 0, i + 1, 1), i < 7 ? 1 : NOTHING);
    }
    due("of the other scheme", bridge.make(1), 0);
    sentence("NONE, refused (2), when there are 8, or there is no such SCHEME.");
    due("a ninth one", bridge.make(0), -1);
    due("refused", bridge.status(2), 1);
    due("records", bridge.has(4), 8);
    due("of the other scheme", bridge.make(1), 1);
    int refused = 1;
    for (int far : FAR) {
      due("no scheme " + far, bridge.make(far), -1);
      refused++;
    }
    due("no scheme", bridge.make(2), -1);
    due("without a book", new RecordBridge().make(0), -1);
    due("refused", bridge.status(2), refused + 1);
    bridge.drop(0, 0);
    due("room again", bridge.make(0), 7);
  }

  private static void copies() {
    sentence("A RECORD like one, behind the others: its number");
    RecordBridge bridge = Checks.withBook(BOOK);
    bridge.make(0);
    bridge.make(0);
    bridge.make(0);
    bridge.write(0, 0, 2, 4, 5);
    bridge.write(0, 0, 3, 4, Integer.MIN_VALUE);
    bridge.put(0, 1, 1, 8, 34);
    bridge.write(0, 0, 6, 4, 99);
    due("copy", bridge.copy(0, 1), 3);
    due("its first cell", bridge.cell(0, 0, 3, 0), 5);
    due("its second cell", bridge.cell(0, 0, 3, 1), Integer.MIN_VALUE);
    due("its word", bridge.cell(0, 1, 3, 0), 34);
    due("like the one", bridge.unlike(0, 1, 3), 0);
    due("unlike the others", bridge.unlike(0, 2, 3), 7);
    bridge.write(0, 0, 7, 4, 6);
    due("the one stays", bridge.cell(0, 0, 1, 1), Integer.MIN_VALUE);
    due("a copy of the last one", bridge.copy(0, 3), 4);
    due("its cell", bridge.cell(0, 0, 4, 1), 6);
    due("a copy of the first one", bridge.copy(0, 0), 5);
    due("its cell", bridge.cell(0, 0, 5, 0), 0);
    bridge.put(0, 1, 0, 10, 0);
    due("a copy with nothing", bridge.copy(0, 0), 6);
    due("nothing there", bridge.get(0, 1, 6, 0), 10);
    bridge.drop(0, 6);
    sentence("NONE, refused (2), when there are 8, or there is none such.");
    due("not yet there", bridge.copy(0, 6), -1);
    due("refused", bridge.status(2), 1);
    bridge.make(0);
    bridge.make(0);
    due("a ninth one", bridge.copy(0, 0), -1);
    due("refused", bridge.status(2), 2);
    due("records", bridge.has(4), 8);
    due("of no records", bridge.copy(1, 0), -1);
    due("no scheme", bridge.copy(3, 0), -1);
    for (int far : FAR) {
      due("no scheme", bridge.copy(far, 0), -1);
      due("no record", bridge.copy(1, far), -1);
    }
    due("without a book", new RecordBridge().copy(0, 0), -1);
    due("refused", bridge.status(2), 4 + 2 * FAR.length);
  }

  private static void drops() {
    sentence("those behind have numbers 1 less");
    for (int dropped = 0; dropped < 8; dropped++) {
      RecordBridge bridge = Checks.withBook(BOOK);
      bridge.make(1);
      for (int i = 0; i < 8; i++) {
        bridge.make(0);
        bridge.write(0, 0, 2 * i, 4, 10 + i);
        bridge.write(0, 0, 2 * i + 1, 4, 20 + i);
        bridge.put(0, 1, i, 8, 1 + i);
      }
      due("drop", bridge.drop(0, dropped), true);
      due("records", bridge.has(4), 7);
      due("of the other scheme", bridge.has(5), 1);
      for (int i = 0; i < 7; i++) {
        int was = i < dropped ? i : i + 1;
        due("first cell of " + i, bridge.cell(0, 0, i, 0), 10 + was);
        due("second cell of " + i, bridge.cell(0, 0, i, 1), 20 + was);
        due("word of " + i, bridge.cell(0, 1, i, 0), 1 + was);
      }
      due("the last one is gone", bridge.cell(0, 0, 7, 0), NOTHING);
      due("its place is as at first", bridge.get(0, 0, 14, 1), 0);
      due("its second place", bridge.get(0, 0, 15, 1), 0);
      due("its word", bridge.get(0, 1, 7, 1), 0);
    }
  }

  private static void dropsOfTheLast() {
    sentence("PLACES of what was the last one are as at first");
    RecordBridge bridge = Checks.withBook(BOOK);
    bridge.make(0);
    bridge.make(0);
    bridge.write(0, 0, 2, 4, 5);
    bridge.write(0, 0, 3, 4, 6);
    bridge.put(0, 1, 1, 10, 0);
    bridge.write(0, 0, 4, 4, 7);
    bridge.put(0, 1, 2, 10, 0);
    due("drop", bridge.drop(0, 1), true);
    due("its place", bridge.get(0, 0, 2, 1), 0);
    due("its second place", bridge.get(0, 0, 3, 1), 0);
    due("its word is empty", bridge.get(0, 1, 1, 0), 8);
    due("the place behind stays", bridge.get(0, 0, 4, 1), 7);
    due("the word behind stays", bridge.get(0, 1, 2, 0), 10);
    sentence("A RECORD is dropped: true; false, refused (2), when there is none such.");
    due("no more there", bridge.drop(0, 1), false);
    due("refused", bridge.status(2), 1);
    due("the only one", bridge.drop(0, 0), true);
    due("none", bridge.has(4), 0);
    due("of none", bridge.drop(0, 0), false);
    due("no scheme", bridge.drop(3, 0), false);
    bridge.make(1);
    for (int far : FAR) {
      due("no scheme", bridge.drop(far, 0), false);
      due("no record", bridge.drop(1, far), false);
    }
    due("refused", bridge.status(2), 3 + 2 * FAR.length);
    due("it stays", bridge.has(5), 1);
    due("without a book", new RecordBridge().drop(0, 0), false);
  }

  // ---- draws

  private static int draw(int m) {
    drawn = (1103515245L * drawn + 12345L) % (1L << 31);
    return (int) (drawn / 64 % m);
  }

  /** The first value that a seed makes in a book of one scheme of one long. */
  private static long firstDrawn(int seed) {
    RecordBridge bridge = Checks.withBook("scheme s long l;");
    due("seed", bridge.seed(seed), true);
    due("chance", bridge.chance(1), 1);
    return bridge.cell(0, 0, 0, 0);
  }

  private static void draws() {
    sentence("A DRAW of m: x (the seed) becomes (1103515245 x + 12345) mod 2 to the 31; floor(x / 64) mod m");
    int[] seeds = {0, 1, 2, 63, 64, 12345, 65535, 65536, 1 << 30, (1 << 30) + 1, Integer.MAX_VALUE - 1,
        Integer.MAX_VALUE};
    for (int seed : seeds) {
      drawn = seed;
      draw(1);
      due("drawn by " + seed, firstDrawn(seed), draw(4000) - 2000);
    }
    due("by the seed 0", firstDrawn(0), (1103515245L * 12345 + 12345) % (1L << 31) / 64 % 4000 - 2000);
    due("by the seed 0, told", firstDrawn(0), 1321);
  }

  private static void bySeed() {
    sentence("by the seed n times: a DRAW of the SCHEMES, a new RECORD of it");
    for (int schemes = 1; schemes <= 3; schemes++) {
      RecordBridge bridge = Checks.withBook("scheme a int x;scheme b int x;scheme c int x;".substring(0, 15 * schemes));
      bridge.seed(1000 + schemes);
      drawn = 1000 + schemes;
      int[] counts = new int[3];
      for (int i = 0; i < 6; i++) {
        int scheme = draw(schemes);
        int value = draw(4000) - 2000;
        due("chance", bridge.chance(1), 1);
        due("its cell", bridge.cell(scheme, 0, counts[scheme], 0), value);
        counts[scheme]++;
        for (int k = 0; k < schemes; k++) {
          due("records", bridge.has(4 + k), counts[k]);
        }
      }
      RecordBridge at = Checks.withBook("scheme a int x;scheme b int x;scheme c int x;".substring(0, 15 * schemes));
      at.seed(1000 + schemes);
      due("at once", at.chance(6), 6);
      for (int k = 0; k < schemes; k++) {
        due("records", at.has(4 + k), counts[k]);
        for (int record = 0; record < counts[k]; record++) {
          due("cell", at.cell(k, 0, record, 0), bridge.cell(k, 0, record, 0));
        }
      }
    }
  }

  private static long wordOf(int v) {
    long word = 0;
    for (int shift = 35; shift >= 0; shift -= 5) {
      long letter = (long) v >> shift & 31;
      word = letter > 0 && letter < 27 ? 32 * word + letter : word;
    }
    return word;
  }

  private static void bySeedOfEachKind() {
    sentence("for each CELL of it, FIELD by FIELD, a DRAW of 4000 less 2000, TOLD as its KIND");
    RecordBridge bridge = Checks.withBook("scheme s bit a times 2,byte b times 3,char c,short d times 4,int e,long f;");
    bridge.seed(77);
    drawn = 77;
    due("chance", bridge.chance(8), 8);
    int[] cells = {2, 3, 1, 4, 1, 1};
    for (int record = 0; record < 8; record++) {
      draw(1);
      for (int field = 0; field < 6; field++) {
        for (int cell = 0; cell < cells[field]; cell++) {
          int v = draw(4000) - 2000;
          long want = field == 0 ? (v != 0 ? 1 : 0) : field == 1 ? (byte) v : field == 2 ? (char) v : v;
          due("cell " + field + " " + cell, bridge.cell(0, field, record, cell), want);
        }
      }
    }
    bridge = Checks.withBook("scheme s word w times 4,double d times 2,float f times 3;");
    drawn = 1;
    due("chance", bridge.chance(8), 8);
    for (int record = 0; record < 8; record++) {
      draw(1);
      for (int cell = 0; cell < 4; cell++) {
        due("word", bridge.cell(0, 0, record, cell), wordOf(draw(4000) - 2000));
      }
      for (int cell = 0; cell < 2; cell++) {
        due("double", bridge.cell(0, 1, record, cell), Double.doubleToLongBits((draw(4000) - 2000) / 16.0));
      }
      for (int cell = 0; cell < 3; cell++) {
        due("float", bridge.cell(0, 2, record, cell), Float.floatToIntBits((draw(4000) - 2000) / 16f));
      }
    }
  }

  private static void bySeedWhereFull() {
    sentence("none, if it has 8: no more then");
    RecordBridge one = Checks.withBook("scheme s int i times 4;");
    due("eight of twenty", one.chance(20), 8);
    due("records", one.has(4), 8);
    due("none of twenty", one.chance(20), 0);
    RecordBridge two = Checks.withBook("scheme s int i times 4;scheme t int i;");
    for (int i = 0; i < 8; i++) {
      two.make(0);
    }
    two.seed(5);
    drawn = 5;
    long[] made = new long[8];
    int count = 0;
    for (int i = 0; i < 8; i++) {
      if (draw(2) == 1) {
        made[count] = draw(4000) - 2000;
        count++;
      }
    }
    due("of the other one alone", two.chance(8), count);
    due("records", two.has(4), 8);
    due("records", two.has(5), count);
    for (int i = 0; i < count; i++) {
      due("its cell", two.cell(1, 0, i, 0), made[i]);
    }
    for (int i = 0; i < 4; i++) {
      due("the full one stays", two.cell(0, 0, 7, i), 0);
    }
  }

  private static void chances() {
    sentence("By the seed n times (1 .. 20), one ACT: how many RECORDS were made");
    RecordBridge bridge = Checks.withBook("scheme a int x;scheme b int x;scheme c int x;");
    due("once", bridge.chance(1), 1);
    due("one act", bridge.has(3), 1);
    due("five times", bridge.chance(5), 5);
    due("one act", bridge.has(3), 2);
    due("undo", bridge.undo(), true);
    due("all five are undone", bridge.has(2), 1);
    int made = bridge.chance(20);
    due("twenty times", bridge.has(2), made + 1);
    for (int i = 0; i < 5; i++) {
      bridge.chance(20);
    }
    due("all are full", bridge.has(2), 24);
    int acts = bridge.has(3);
    due("none is made", bridge.chance(1), 0);
    due("an act all the same", bridge.has(3), acts + 1);
    due("not refused", bridge.status(2), 0);
    sentence("NONE, refused (2), when n can't be, or without a book.");
    due("0 times", bridge.chance(0), -1);
    due("21 times", bridge.chance(21), -1);
    for (int far : FAR) {
      due(far + " times", bridge.chance(far), -1);
    }
    due("refused", bridge.status(2), 2 + FAR.length);
    due("no act", bridge.has(3), acts + 1);
    RecordBridge none = new RecordBridge();
    due("without a book", none.chance(1), -1);
    due("without a book", none.chance(20), -1);
    due("refused", none.status(2), 2);
    none.seed(5);
    none.chance(3);
    none.chance(30);
    Checks.book(none, "scheme s long l;");
    none.chance(40);
    none.chance(1);
    due("refused, it draws nothing", none.cell(0, 0, 0, 0), firstDrawn(5));
  }

  // ---- acts

  private static void act(RecordBridge bridge, String what, boolean isAct) {
    due("an act: " + what, bridge.has(3), isAct ? 1 : 0);
    due("undone: " + what, bridge.undo(), isAct);
  }

  private static void acts() {
    sentence("ACTS: a CELL written, put (a ROW of THINGS, too); a RECORD made, copied, dropped (those behind have "
        + "numbers "
        + "1 less; PLACES of what was the last one are as at first); a CROSSING; by the seed.");
    RecordBridge bridge = Checks.withBook(BOOK);
    bridge.write(0, 0, 0, 4, 5);
    act(bridge, "written", true);
    bridge.write(0, 0, 0, 4, 0);
    act(bridge, "written as it was", true);
    bridge.put(0, 0, 0, 4, 5);
    act(bridge, "put", true);
    bridge.put(0, 1, 0, 10, 5);
    act(bridge, "nothing put", true);
    bridge.put(0, 8, 0, 4, 7);
    act(bridge, "a thing put as it was", true);
    bridge.make(0);
    act(bridge, "made", true);
    bridge.chance(1);
    act(bridge, "by the seed", true);
    bridge.write(0, 0, 16, 4, 5);
    bridge.write(0, 0, 0, 5, 5);
    act(bridge, "a write that is refused", false);
    bridge.put(0, 0, 0, 10, 5);
    bridge.put(0, 8, 4, 10, 5);
    act(bridge, "a put that is refused", false);
    bridge.make(3);
    bridge.copy(0, 0);
    bridge.drop(0, 0);
    bridge.chance(0);
    bridge.cross(0, 0);
    act(bridge, "what is refused", false);
    bridge.seed(5);
    bridge.read(0, 0, 0, 4);
    bridge.get(0, 0, 0, 1);
    bridge.feed(0, 0, 0, 0, 0);
    bridge.end(0);
    bridge.book();
    bridge.named(-1);
    act(bridge, "others", false);
    bridge.make(0);
    bridge.would(0, 0, 0);
    bridge.least(0, 0, 1, -1);
    bridge.tells(0, 0);
    act(bridge, "made, and others", true);
    String[] ofRecords = {"copied", "dropped", "crossed"};
    for (int i = 0; i < 3; i++) {
      RecordBridge other = Checks.withBook(BOOK);
      other.make(0);
      due("made", other.has(3), 1);
      boolean done = i == 0 ? other.copy(0, 0) == 1 : i == 1 ? other.drop(0, 0) : other.cross(0, 0) == 0;
      due(ofRecords[i], done, true);
      due("an act: " + ofRecords[i], other.has(3), 2);
    }
  }

  private static void twentyActs() {
    sentence("The last 20 can be undone.");
    for (int acts = 19; acts <= 22; acts++) {
      RecordBridge bridge = Checks.withBook(BOOK);
      for (int i = 1; i <= acts; i++) {
        bridge.put(0, 8, 0, 9, i);
      }
      int most = Math.min(acts, 20);
      due("acts of " + acts, bridge.has(3), most);
      for (int i = 1; i <= most; i++) {
        due("undo " + i, bridge.undo(), true);
        due("as it was", bridge.get(0, 8, 0, 1), acts - i == 0 ? 7 : acts - i);
        due("acts", bridge.has(3), most - i);
      }
      due("no more", bridge.undo(), false);
      due("refused", bridge.status(4), 1);
      due("as it was", bridge.get(0, 8, 0, 1), acts > 20 ? acts - 20 : 7);
    }
    RecordBridge bridge = Checks.withBook(BOOK);
    for (int i = 1; i <= 20; i++) {
      bridge.put(0, 8, 0, 9, i);
    }
    for (int i = 0; i < 7; i++) {
      bridge.undo();
    }
    for (int i = 1; i <= 10; i++) {
      bridge.put(0, 8, 0, 9, 100 + i);
      due("acts", bridge.has(3), Math.min(13 + i, 20));
    }
    for (int i = 1; i <= 10; i++) {
      due("undo", bridge.undo(), true);
      due("as it was", bridge.get(0, 8, 0, 1), i < 10 ? 110 - i : 13);
    }
    for (int i = 1; i <= 10; i++) {
      due("undo", bridge.undo(), true);
      due("as it was", bridge.get(0, 8, 0, 1), 13 - i);
    }
    due("no more", bridge.undo(), false);
    due("as it was", bridge.get(0, 8, 0, 1), 3);
  }

  private static void undoes() {
    sentence("The latest ACT (write(), put(), make(), copy(), drop(), chance(), cross(), not refused) is undone");
    RecordBridge bridge = Checks.withBook(BOOK);
    bridge.write(0, 0, 0, 4, 5);
    bridge.make(0);
    bridge.undo();
    due("make: the place", bridge.get(0, 0, 0, 1), 5);
    due("make: the record", bridge.has(4), 0);
    bridge.undo();
    due("write: the place", bridge.get(0, 0, 0, 1), 0);
    bridge.put(0, 1, 0, 10, 0);
    bridge.put(0, 1, 0, 8, 5);
    bridge.undo();
    due("put: nothing again", bridge.get(0, 1, 0, 0), 10);
    bridge.undo();
    due("put: an empty word again", bridge.get(0, 1, 0, 0), 8);
    bridge.put(0, 8, 3, 10, 0);
    bridge.undo();
    due("put: the thing again", bridge.get(0, 8, 3, 0), 0);
    due("put: its number again", bridge.get(0, 8, 3, 1), 1);
    due("acts", bridge.has(3), 0);
    bridge.make(0);
    bridge.write(0, 0, 0, 4, 5);
    bridge.write(0, 0, 2, 4, 9);
    bridge.copy(0, 0);
    due("copy", bridge.cell(0, 0, 1, 0), 5);
    bridge.undo();
    due("copy: the record", bridge.has(4), 1);
    due("copy: the place", bridge.get(0, 0, 2, 1), 9);
    bridge.write(1, 1, 0, 1, 77);
    bridge.cross(0, 0);
    due("cross", bridge.cell(1, 1, 0, 0), 5);
    bridge.undo();
    due("cross: the record", bridge.has(5), 0);
    due("cross: the place", bridge.get(1, 1, 0, 1), 77);
  }

  private static void undoneActs() {
    sentence("is undone");
    RecordBridge bridge = Checks.withBook(BOOK);
    bridge.make(0);
    bridge.make(1);
    bridge.write(2, 0, 0, 5, 9);
    bridge.write(2, 0, 7, 5, 8);
    bridge.chance(20);
    due("by the seed", bridge.has(2) > 2, true);
    bridge.undo();
    due("chance: records", bridge.has(2), 2);
    due("chance: records of each", bridge.has(4) * 100 + bridge.has(5) * 10 + bridge.has(6), 110);
    due("chance: the place", bridge.get(2, 0, 0, 1), 9);
    due("chance: the place", bridge.get(2, 0, 7, 1), 8);
    bridge.undo();
    bridge.undo();
    bridge.undo();
    due("the one ahead", bridge.has(5), 0);
    due("the first stays", bridge.has(4), 1);
    bridge.undo();
    due("all", bridge.has(2), 0);
  }

  private static void undoneDrops() {
    sentence("is undone");
    for (int dropped = 0; dropped < 3; dropped++) {
      RecordBridge bridge = Checks.withBook(BOOK);
      for (int i = 0; i < 3; i++) {
        bridge.make(0);
        bridge.write(0, 0, 2 * i, 4, 10 + i);
        bridge.put(0, 1, i, 8, 1 + i);
      }
      bridge.put(0, 1, 1, 10, 0);
      bridge.drop(0, dropped);
      due("undo", bridge.undo(), true);
      due("records", bridge.has(4), 3);
      for (int i = 0; i < 3; i++) {
        due("cell", bridge.cell(0, 0, i, 0), 10 + i);
        due("word", bridge.get(0, 1, i, 1), i == 1 ? 0 : 1 + i);
        due("its kind", bridge.get(0, 1, i, 0), i == 1 ? 10 : 8);
      }
    }
  }

  private static void undoesLeave() {
    sentence("the seed, ACCOUNT, why() stay");
    RecordBridge bridge = Checks.withBook(BOOK);
    bridge.make(0);
    bridge.write(0, 0, 0, 4, 300);
    bridge.cross(0, 0);
    int[] account = new int[6];
    for (int what = 0; what < 6; what++) {
      account[what] = bridge.account(what);
    }
    due("lost", account[3], 2);
    bridge.read(0, 0, 16, 4);
    bridge.undo();
    for (int what = 0; what < 6; what++) {
      due("account " + what, bridge.account(what), account[what]);
    }
    due("why", bridge.why(), -1);
    RecordBridge other = Checks.withBook("scheme s long l;");
    other.seed(9);
    drawn = 9;
    draw(1);
    draw(4000);
    other.chance(1);
    other.undo();
    other.chance(1);
    draw(1);
    due("the seed goes on", other.cell(0, 0, 0, 0), draw(4000) - 2000);
    other.undo();
    other.seed(9);
    other.make(0);
    other.undo();
    other.chance(1);
    due("a seed given stays", other.cell(0, 0, 0, 0), firstDrawn(9));
    sentence("true; false, refused (4), when none can be.");
    due("true", other.undo(), true);
    due("none", other.undo(), false);
    due("refused", other.status(4), 1);
    due("none", other.undo(), false);
    due("refused", other.status(4), 2);
    RecordBridge none = new RecordBridge();
    due("without a book", none.undo(), false);
    due("refused", none.status(4), 1);
  }

  private static void seeds() {
    sentence("The seed: true; false, refused (5), when it is below 0.");
    RecordBridge bridge = Checks.withBook("scheme s long l;");
    due("0", bridge.seed(0), true);
    due("the most", bridge.seed(Integer.MAX_VALUE), true);
    due("not refused", bridge.status(5), 0);
    due("-1", bridge.seed(-1), false);
    due("refused", bridge.status(5), 1);
    due("the least", bridge.seed(Integer.MIN_VALUE), false);
    due("refused", bridge.status(5), 2);
    bridge.chance(1);
    due("refused, the seed stays", bridge.cell(0, 0, 0, 0), firstDrawn(Integer.MAX_VALUE));
    sentence("It is 1 at first.");
    bridge = Checks.withBook("scheme s long l;");
    bridge.chance(1);
    due("at first", bridge.cell(0, 0, 0, 0), firstDrawn(1));
  }

  private static void statuses() {
    sentence("How many were refused: 0 feed(), end(); 1 book(); 2 make(), copy(), drop(), chance(); 3 cross(); 4 "
        + "undo(); "
        + "5 seed().");
    int[] want = new int[6];
    RecordBridge bridge = new RecordBridge();
    for (int i = 0; i < 14; i++) {
      switch (i) {
        case 0 -> bridge.end(1);
        case 1 -> bridge.book();
        case 2 -> bridge.make(0);
        case 3 -> bridge.copy(0, 0);
        case 4 -> bridge.drop(0, 0);
        case 5 -> bridge.chance(1);
        case 6 -> bridge.cross(0, 0);
        case 7 -> bridge.undo();
        case 8 -> bridge.seed(-1);
        case 9 -> feedTooMuch(bridge);
        case 10 -> bridge.end(-1);
        case 11 -> bridge.book();
        case 12 -> Checks.book(bridge, BOOK);
        default -> bridge.cross(0, 0);
      }
      int[] which = {0, 1, 2, 2, 2, 2, 3, 4, 5, 0, 0, 1, -1, 3};
      if (which[i] >= 0) {
        want[which[i]]++;
      }
      for (int what = 0; what < 6; what++) {
        due("behind " + i + ", status " + what, bridge.status(what), want[what]);
      }
    }
  }

  private static void feedTooMuch(RecordBridge bridge) {
    for (int i = 0; i < 81; i++) {
      bridge.feed(0, 0, 0, 0, 0);
    }
  }

  private static void farStatuses() {
    sentence("NONE for others.");
    RecordBridge bridge = new RecordBridge();
    int[] others = {-1, 6, 7, Integer.MAX_VALUE, Integer.MIN_VALUE};
    for (int what : others) {
      due("status " + what, bridge.status(what), -1);
    }
    sentence("How many were refused");
    bridge = Checks.withBook(BOOK);
    bridge.named(-1);
    bridge.read(9, 9, 9, 9);
    bridge.get(9, 9, 9, 9);
    bridge.write(9, 9, 9, 9, 9);
    bridge.put(9, 9, 9, 9, 9);
    bridge.cell(9, 9, 9, 9);
    bridge.would(9, 9, 9);
    bridge.round(9, 9, 9);
    bridge.least(9, 9, 9, 9);
    bridge.origins(9, 9);
    for (int what = 0; what < 6; what++) {
      due("others are not told, status " + what, bridge.status(what), 0);
    }
  }
}
