/** Term II on crossings, term III, promises 25 to 34: each sentence that names a boundary case. */
public final class CrossEdgesTest {
  private static final Checks CHECKS = new Checks();
  private static final long NOTHING = RecordBridge.NOTHING;
  private static final int WIDENED = 1;
  private static final int KEPT = 2;
  private static final int LOST = 3;
  private static final String[] KINDS = {"bit", "byte", "char", "short", "int", "long", "float", "double", "word"};
  private static final String THREE = "scheme a int x;scheme b int x;scheme c int x;";
  private static final int[] FAR = {Integer.MIN_VALUE, -65536, -3, -2, 8, 9, 65536, Integer.MAX_VALUE};
  private static final long[] EDGES = {0, 1, -1, 9, 10, 127, 128, -128, -129, 255, 256, 32767, 32768, -32768, -32769,
      65535, 65536, 16777216, 16777217, 9999999, -9999999, 10000000, -10000000, 99999999, 100000000,
      Integer.MAX_VALUE, 1L << 31, Integer.MIN_VALUE, -(1L << 31) - 1, (1L << 53) + 1, Long.MAX_VALUE, Long.MIN_VALUE};

  public static void main(String[] args) {
    newRecords();
    cellsThatBothHave();
    cellsOfAllThree();
    cellsOfNumbers();
    kindsMade();
    longsMade();
    doublesMade();
    heldWithin();
    smallestReals();
    numbers();
    widened();
    wholeCasts();
    realCasts();
    toBits();
    ofBits();
    toWords();
    lastEightSigns();
    ofWords();
    lost();
    lostReals();
    crosses();
    accounts();
    accountsStay();
    tried();
    rounds();
    provedKinds();
    provedRules();
    ways();
    waysInTurn();
    least();
    leastOfThree();
    leastRefused();
    origins();
    originsOfMany();
    telling();
    tellingByAllCells();
    idle();
    CHECKS.close("CrossEdgesTest");
  }

  private static void sentence(String words) {
    CHECKS.sentence(words);
  }

  private static void due(String what, long got, long want) {
    CHECKS.due(what, got, want);
  }

  private static void due(String what, boolean got, boolean want) {
    CHECKS.due(what, got, want);
  }

  private static long bits(float real) {
    return Float.floatToIntBits(real);
  }

  private static long bits(double real) {
    return Double.doubleToLongBits(real);
  }

  private static long word(String letters) {
    return Checks.word(letters);
  }

  // ---- term II: what a crossing does

  private static void newRecords() {
    sentence("it makes a new RECORD of the other SCHEME (all its CELLS 0, no, empty), then RULES as told");
    RecordBridge bridge = Checks.withBook("scheme s int a,word w;scheme t bit o,int i times 2,word w,double d,int j;"
        + "cross s to t j from a;");
    bridge.write(1, 0, 0, 0, 1);
    bridge.write(1, 1, 0, 4, 5);
    bridge.write(1, 1, 1, 4, 6);
    bridge.put(1, 2, 0, 10, 0);
    bridge.write(1, 3, 0, 7, 5);
    bridge.write(1, 4, 0, 4, 5);
    bridge.make(0);
    bridge.write(0, 0, 0, 4, -9);
    bridge.put(0, 1, 0, 8, 5);
    due("cross", bridge.cross(0, 0), 0);
    due("a bit", bridge.cell(1, 0, 0, 0), 0);
    due("an int", bridge.cell(1, 1, 0, 0), 0);
    due("the other int", bridge.cell(1, 1, 0, 1), 0);
    due("a word", bridge.get(1, 2, 0, 0), 8);
    due("a double", bridge.cell(1, 3, 0, 0), 0);
    due("as told", bridge.cell(1, 4, 0, 0), -9);
    due("the record stays", bridge.cell(0, 0, 0, 0), -9);
    due("its word stays", bridge.cell(0, 1, 0, 0), 5);
    due("records", bridge.has(2), 2);
  }

  private static void cellsThatBothHave() {
    sentence("for each CELL that both have");
    for (int cells = 1; cells <= 4; cells++) {
      for (int targets = 1; targets <= 4; targets++) {
        for (String rule : new String[] {"", " by 1", " over 1"}) {
          RecordBridge bridge = Checks.withBook("scheme s bit o,int a times " + cells + ",int b;scheme t bit o,long "
              + "x times "
              + targets + ",int y;cross s to t x from a" + rule + ";");
          bridge.make(0);
          bridge.make(0);
          for (int i = 0; i < 2 * cells; i++) {
            bridge.write(0, 1, i, 4, 10 + i);
          }
          int both = Math.min(cells, targets);
          due("cross", bridge.cross(0, 1), 0);
          for (int i = 0; i < targets; i++) {
            due("cell " + i, bridge.cell(1, 1, 0, i), i < both ? 10 + cells + i : 0);
          }
          int[] want = {both, both, 0, 0, cells + 2 - both, targets + 2 - both};
          for (int what = 0; what < 6; what++) {
            due("account " + what, bridge.account(what), want[what]);
          }
        }
      }
    }
  }

  private static void cellsOfAllThree() {
    sentence("of plus: all three");
    for (int cells = 1; cells <= 4; cells++) {
      for (int others = 1; others <= 4; others++) {
        for (int targets = 1; targets <= 4; targets++) {
          RecordBridge bridge = Checks.withBook("scheme s int a times " + cells + ",int b times " + others
              + ";scheme t long x times " + targets + ";cross s to t x from b plus a;");
          bridge.make(0);
          for (int i = 0; i < 4; i++) {
            bridge.write(0, 0, i, 4, 1 + i);
            bridge.write(0, 1, i, 4, 10 + 10 * i);
          }
          int all = Math.min(Math.min(cells, others), targets);
          due("cross", bridge.cross(0, 0), 0);
          for (int i = 0; i < targets; i++) {
            due("cell " + i, bridge.cell(1, 0, 0, i), i < all ? 11 + 11 * i : 0);
          }
          due("carried", bridge.account(0), all);
          due("not read", bridge.account(4), cells + others - 2 * all);
          due("not filled", bridge.account(5), targets - all);
        }
      }
    }
  }

  private static void cellsOfNumbers() {
    sentence("of a number: each CELL of the target");
    for (int targets = 1; targets <= 4; targets++) {
      RecordBridge bridge = Checks.withBook("scheme s bit o times 3;scheme t int x times " + targets + ",bit p;"
          + "cross s to t x from 999;");
      bridge.make(0);
      due("cross", bridge.cross(0, 0), 0);
      for (int i = 0; i < targets; i++) {
        due("cell " + i, bridge.cell(1, 0, 0, i), 999);
      }
      int[] want = {targets, targets, 0, 0, 3, 1};
      for (int what = 0; what < 6; what++) {
        due("account " + what, bridge.account(what), want[what]);
      }
    }
  }

  // ---- term II: what rules make

  /** What a source makes of a and b, put as their kinds: carried to a kind, and what the account says. */
  private static void made(int one, long a, int two, long b, String source, int to, long want, int account) {
    RecordBridge bridge = Checks.withBook("scheme s " + KINDS[one] + " a," + KINDS[two] + " b;scheme t " + KINDS[to]
        + " y;cross s to t y from " + source + ";");
    bridge.make(0);
    String at = KINDS[one] + " " + a + " " + KINDS[two] + " " + b + ": " + source + " to " + KINDS[to];
    due("put " + at, bridge.put(0, 0, 0, one, a), true);
    due("put " + at, bridge.put(0, 1, 0, two, b), true);
    due("cross " + at, bridge.cross(0, 0), 0);
    due(at, bridge.cell(1, 0, 0, 0), want);
    due("carried " + at, bridge.account(0), 1);
    for (int what = 1; what < 4; what++) {
      due("account of " + at + ", " + what, bridge.account(what), what == account ? 1 : 0);
    }
  }

  private static void kindsMade() {
    sentence("if both are (it is) of KIND 1 .. 5 a long");
    for (int one = 1; one < 8; one++) {
      for (int two = 1; two < 8; two++) {
        boolean whole = one < 6 && two < 6;
        made(one, one > 5 ? 112 : 7, two, two > 5 ? 48 : 3, "a plus b", 5, 10, whole ? WIDENED : KEPT);
        made(one, one > 5 ? 112 : 7, two, two > 5 ? 48 : 3, "a plus b", 7, bits(10.0), WIDENED);
        made(one, one > 5 ? 112 : 7, two, two > 5 ? 48 : 3, "a plus b", 4, 10, KEPT);
      }
      made(one, one > 5 ? 112 : 7, 4, 0, "a by 3", 5, 21, one < 6 ? WIDENED : KEPT);
      made(one, one > 5 ? 112 : 7, 4, 0, "a by 3", 6, bits(21f), one < 6 ? WIDENED : KEPT);
      made(one, one > 5 ? 112 : 7, 4, 0, "a over 2", 5, 3, one < 6 ? WIDENED : LOST);
      made(one, one > 5 ? 112 : 7, 4, 0, "a over 2", 7, bits(one < 6 ? 3.0 : 3.5), WIDENED);
    }
    sentence("a FIELD alone itself");
    for (int kind = 0; kind < 9; kind++) {
      made(kind, 1, 4, 0, "a", kind, kind == 6 ? bits(0.0625f) : kind == 7 ? bits(0.0625) : 1, WIDENED);
    }
    made(7, Long.MAX_VALUE, 4, 0, "a", 7, bits(Long.MAX_VALUE / 16.0), WIDENED);
  }

  private static void longsMade() {
    sentence("sum, product of longs as they go round");
    long max = Long.MAX_VALUE;
    long min = Long.MIN_VALUE;
    made(5, max, 1, 1, "a plus b", 5, min, WIDENED);
    made(5, min, 3, -1, "a plus b", 5, max, WIDENED);
    made(5, min, 5, min, "a plus b", 5, 0, WIDENED);
    made(5, max, 5, max, "a plus a", 5, -2, WIDENED);
    made(5, max, 4, 0, "a by 2", 5, -2, WIDENED);
    made(5, max, 4, 0, "a by 999", 5, max * 999, WIDENED);
    made(5, min, 4, 0, "a by 2", 5, 0, WIDENED);
    made(5, min, 4, 0, "a by 1", 5, min, WIDENED);
    made(4, Integer.MAX_VALUE, 4, 1, "a plus b", 5, 1L << 31, WIDENED);
    made(4, Integer.MIN_VALUE, 4, 0, "a by 999", 5, 999L * Integer.MIN_VALUE, WIDENED);
    made(1, 127, 1, 127, "a plus b", 5, 254, WIDENED);
    made(2, -1, 2, -1, "a plus b", 5, 131070, WIDENED);
    made(3, -32768, 2, -1, "a plus b", 5, 32767, WIDENED);
    sentence("over cut towards 0");
    made(4, 7, 4, 0, "a over 2", 5, 3, WIDENED);
    made(4, -7, 4, 0, "a over 2", 5, -3, WIDENED);
    made(4, 998, 4, 0, "a over 999", 5, 0, WIDENED);
    made(4, -998, 4, 0, "a over 999", 5, 0, WIDENED);
    made(4, -999, 4, 0, "a over 999", 5, -1, WIDENED);
    made(5, min, 4, 0, "a over 1", 5, min, WIDENED);
    made(5, min, 4, 0, "a over 999", 5, min / 999, WIDENED);
    made(5, max, 4, 0, "a over 10", 5, max / 10, WIDENED);
  }

  private static void doublesMade() {
    sentence("else a double (likewise, quotient by N as a double");
    made(6, 24, 4, 5, "a by 3", 7, bits(4.5), WIDENED);
    made(6, 1, 4, 5, "a over 999", 7, bits(0.0625 / 999), WIDENED);
    made(7, -1, 4, 5, "a over 7", 7, bits(-0.0625 / 7), WIDENED);
    made(7, -24, 4, 5, "a plus b", 7, bits(3.5), WIDENED);
    made(4, 5, 7, -24, "a plus b", 7, bits(3.5), WIDENED);
    made(6, 1, 7, 1, "a plus b", 7, bits(0.125), WIDENED);
    made(6, 16777216, 6, 1, "a plus b", 7, bits(1048576.0625), WIDENED);
    made(6, 8388608, 6, 1, "a plus b", 6, bits(524288.0625f), KEPT);
    made(6, 16777216 * 16L, 6, 1, "a plus b", 6, bits(16777216f), LOST);
    made(7, 16, 5, 1L << 49, "a plus b", 7, bits((double) (1L << 49) + 1), WIDENED);
    made(5, (1L << 49) + 1, 6, 0, "a plus b", 7, bits((double) (1L << 49) + 1), WIDENED);
    made(7, 24, 4, 0, "a by 3", 4, 4, LOST);
  }

  private static void heldWithin() {
    sentence("held within 10 to the 15 either way");
    long most = 1000000000000000L;
    made(7, 16 * most, 4, 0, "a by 1", 7, bits(1e15), WIDENED);
    made(7, 16 * most + 16, 4, 0, "a by 1", 7, bits(1e15), WIDENED);
    made(7, 16 * most - 16, 4, 0, "a by 1", 7, bits(1e15 - 1), WIDENED);
    made(7, -16 * most, 4, 0, "a by 1", 7, bits(-1e15), WIDENED);
    made(7, -16 * most - 16, 4, 0, "a by 1", 7, bits(-1e15), WIDENED);
    made(7, -16 * most + 16, 4, 0, "a by 1", 7, bits(1 - 1e15), WIDENED);
    made(7, 16 * most / 2, 4, 0, "a by 3", 7, bits(1e15), WIDENED);
    made(7, -16 * most / 2, 4, 0, "a by 3", 7, bits(-1e15), WIDENED);
    made(7, Long.MAX_VALUE, 4, 0, "a over 1", 7, bits(1e15), WIDENED);
    made(7, Long.MIN_VALUE, 4, 0, "a over 576", 7, bits(-1e15), WIDENED);
    made(7, Long.MIN_VALUE, 4, 0, "a over 577", 7, bits(Long.MIN_VALUE / 16.0 / 577), WIDENED);
    made(7, 16 * most, 5, 1, "a plus b", 7, bits(1e15), WIDENED);
    made(7, 16 * most, 5, -1, "a plus b", 7, bits(1e15 - 1), WIDENED);
    made(7, 0, 5, Long.MAX_VALUE, "a plus b", 7, bits(1e15), WIDENED);
    made(6, 0, 5, Long.MIN_VALUE, "b plus a", 7, bits(-1e15), WIDENED);
    made(6, Long.MAX_VALUE, 6, Long.MAX_VALUE, "a plus b", 7, bits(1e15), WIDENED);
    made(6, Long.MAX_VALUE, 4, 0, "a by 999", 5, most, KEPT);
    made(5, Long.MAX_VALUE, 4, 0, "a by 1", 7, bits((double) Long.MAX_VALUE), WIDENED);
    made(7, Long.MAX_VALUE, 4, 0, "a", 5, 576460752303423488L, KEPT);
  }

  /** A double over 999 again and again, by two crossings to and fro, to and behind the smallest one. */
  private static void smallestReals() {
    sentence("quotient by N as a double");
    RecordBridge bridge = Checks.withBook("scheme s double x,float f;scheme t double x,float f;"
        + "cross s to t x from x over 999,f from x over 999;cross t to s x from x over 999,f from x over 999;");
    bridge.make(0);
    bridge.write(0, 0, 0, 7, -16);
    double x = -1;
    for (int i = 0; i < 112; i++) {
      int from = i % 2;
      x = x / 999;
      due("cross", bridge.cross(from, 0), 0);
      due("a double, " + i, bridge.cell(1 - from, 0, 0, 0), bits(x));
      due("a float, " + i, bridge.cell(1 - from, 1, 0, 0), bits((float) x));
      boolean isKept = bits((double) (float) x) == bits(x);
      due("lost, " + i, bridge.account(LOST), isKept ? 0 : 1);
      bridge.drop(from, 0);
    }
    due("a zero below zero", bits(x), Long.MIN_VALUE);
  }

  private static void numbers() {
    sentence("a number N: an int");
    int[] numbers = {0, 1, 127, 128, 255, 256, 999};
    for (int n : numbers) {
      made(4, 7, 4, 5, "" + n, 1, (byte) n, n > 127 ? LOST : KEPT);
      made(4, 7, 4, 5, "" + n, 2, n, KEPT);
      made(4, 7, 4, 5, "" + n, 3, n, KEPT);
      made(4, 7, 4, 5, "" + n, 4, n, WIDENED);
      made(4, 7, 4, 5, "" + n, 5, n, WIDENED);
      made(4, 7, 4, 5, "" + n, 6, bits((float) n), WIDENED);
      made(4, 7, 4, 5, "" + n, 7, bits((double) n), WIDENED);
    }
    made(4, 7, 4, 5, "0", 8, word("a"), KEPT);
    made(4, 7, 4, 5, "999", 8, word("jjj"), KEPT);
    made(4, 7, 4, 5, "010", 8, word("ba"), KEPT);
  }

  // ---- term II: widened, narrowed

  /** One value of a kind, put as v, carried to another kind. */
  private static void carried(int kind, long v, int to, long want, int account) {
    made(kind, v, 4, 0, "a", to, want, account);
  }

  private static void widened() {
    sentence("It is CARRIED: if its KIND WIDENS to that of the target, so.");
    carried(0, 5, 0, 1, WIDENED);
    carried(8, 0, 8, 0, WIDENED);
    carried(8, word("zzzzzzzz"), 8, word("zzzzzzzz"), WIDENED);
    for (int kind = 1; kind < 6; kind++) {
      for (int to = kind; to < 8; to++) {
        if (kind == to || kind == 1 && to > 2 || kind > 1 && to > 3) {
          for (long v : EDGES) {
            long value = kind == 1 ? (byte) v : kind == 2 ? (char) v : kind == 3 ? (short) v : kind == 4 ? (int) v : v;
            carried(kind, v, to, to == 6 ? bits((float) value) : to == 7 ? bits((double) value) : value, WIDENED);
          }
        }
      }
    }
    for (long v : EDGES) {
      carried(6, v, 7, bits((double) ((float) v / 16)), WIDENED);
    }
  }

  private static long whole(int kind, long v) {
    return kind == 1 ? (byte) v : kind == 2 ? (char) v : kind == 3 ? (short) v : kind == 4 ? (int) v : v;
  }

  private static void wholeCasts() {
    sentence("Else NARROWED: numbers as casts make it");
    int[][] narrow = {{1, 2}, {2, 1}, {2, 3}, {3, 1}, {3, 2}, {4, 1}, {4, 2}, {4, 3}, {5, 1}, {5, 2}, {5, 3}, {5, 4}};
    for (int[] kinds : narrow) {
      for (long v : EDGES) {
        long value = whole(kinds[0], v);
        long cast = whole(kinds[1], value);
        carried(kinds[0], v, kinds[1], cast, whole(kinds[0], cast) == value ? KEPT : LOST);
      }
    }
  }

  private static void realCasts() {
    sentence("Else NARROWED: numbers as casts make it");
    for (long v : EDGES) {
      for (int scale = 0; scale < 2; scale++) {
        long told = scale == 0 ? v : v * 16;
        double d = (double) told / 16;
        float f = (float) told / 16;
        carried(7, told, 1, (byte) d, d == (byte) d ? KEPT : LOST);
        carried(7, told, 2, (char) d, d == (char) d ? KEPT : LOST);
        carried(7, told, 3, (short) d, d == (short) d ? KEPT : LOST);
        carried(7, told, 4, (int) d, d == (int) d ? KEPT : LOST);
        carried(7, told, 5, (long) d, d == (long) d ? KEPT : LOST);
        carried(7, told, 6, bits((float) d), d == (float) d ? KEPT : LOST);
        carried(6, told, 1, (byte) f, f == (byte) f ? KEPT : LOST);
        carried(6, told, 2, (char) f, f == (char) f ? KEPT : LOST);
        carried(6, told, 3, (short) f, f == (short) f ? KEPT : LOST);
        carried(6, told, 4, (int) f, bits(f) == bits((float) (int) f) ? KEPT : LOST);
        carried(6, told, 5, (long) f, bits(f) == bits((float) (long) f) ? KEPT : LOST);
      }
    }
  }

  private static void toBits() {
    sentence("to bit: whether it is not 0");
    for (int kind = 1; kind < 8; kind++) {
      carried(kind, 0, 0, 0, KEPT);
      carried(kind, kind > 5 ? 16 : 1, 0, 1, KEPT);
      carried(kind, 2, 0, 1, LOST);
      carried(kind, -1, 0, 1, LOST);
    }
    carried(5, 1L << 32, 0, 1, LOST);
    carried(5, Long.MIN_VALUE, 0, 1, LOST);
    carried(7, 1, 0, 1, LOST);
    carried(7, -1, 0, 1, LOST);
    carried(6, 1, 0, 1, LOST);
  }

  private static void ofBits() {
    sentence("bit to a number: 1, 0, as casts make it");
    for (int kind = 1; kind < 8; kind++) {
      carried(0, 0, kind, 0, KEPT);
      carried(0, -5, kind, kind == 6 ? bits(1f) : kind == 7 ? bits(1.0) : 1, KEPT);
    }
    sentence("to a word: \"b\" for yes, \"a\" for no");
    carried(0, 1, 8, word("b"), KEPT);
    carried(0, 0, 8, word("a"), LOST);
  }

  private static void toWords() {
    sentence("a number to a word: first cast to a long");
    carried(7, 16 * 12 + 15, 8, word("bc"), LOST);
    carried(7, -16 * 12 - 15, 8, word("zbc"), LOST);
    carried(7, 15, 8, word("a"), LOST);
    carried(7, -15, 8, word("a"), LOST);
    carried(6, 24, 8, word("b"), LOST);
    carried(6, 16, 8, word("b"), KEPT);
    carried(2, -1, 8, word("gffdf"), KEPT);
    carried(1, 128, 8, word("zbci"), KEPT);
    sentence("its digits as letters (0 a .. 9 j), z ahead of one below 0");
    for (int digit = 0; digit < 10; digit++) {
      carried(4, digit, 8, 1 + digit, KEPT);
      carried(4, 10 + digit, 8, 2 * 32 + 1 + digit, KEPT);
    }
    for (int digit = 1; digit < 10; digit++) {
      carried(4, -digit, 8, 26 * 32 + 1 + digit, KEPT);
    }
    carried(4, 9876543, 8, word("jihgfed"), KEPT);
    carried(4, 210, 8, word("cba"), KEPT);
    carried(4, -100, 8, word("zbaa"), KEPT);
  }

  private static void lastEightSigns() {
    sentence("the last 8 signs of these at most");
    carried(4, 12345678, 8, word("bcdefghi"), KEPT);
    carried(4, 99999999, 8, word("jjjjjjjj"), KEPT);
    carried(4, 100000000, 8, word("aaaaaaaa"), LOST);
    carried(4, 123456789, 8, word("cdefghij"), LOST);
    carried(4, -1234567, 8, word("zbcdefgh"), KEPT);
    carried(4, -9999999, 8, word("zjjjjjjj"), KEPT);
    carried(4, -10000000, 8, word("baaaaaaa"), LOST);
    carried(4, -12345678, 8, word("bcdefghi"), LOST);
    carried(4, -123456789, 8, word("cdefghij"), LOST);
    carried(5, Long.MAX_VALUE, 8, word("fehhfiah"), LOST);
    carried(5, Long.MIN_VALUE, 8, word("fehhfiai"), LOST);
    carried(7, Long.MAX_VALUE, 8, word("adecdeii"), LOST);
  }

  private static void ofWords() {
    sentence("a word to bit: whether it has letters");
    carried(8, 0, 0, 0, LOST);
    carried(8, word("a"), 0, 1, LOST);
    carried(8, word("b"), 0, 1, KEPT);
    carried(8, word("z"), 0, 1, LOST);
    carried(8, word("kkkkkkkk"), 0, 1, LOST);
    sentence("to a number: letters a .. j as digits of a long (others are left out)");
    carried(8, 0, 4, 0, LOST);
    carried(8, word("a"), 4, 0, KEPT);
    carried(8, word("j"), 4, 9, KEPT);
    carried(8, word("k"), 4, 0, LOST);
    carried(8, word("jk"), 4, 9, LOST);
    carried(8, word("kj"), 4, 9, LOST);
    carried(8, word("bcdefghi"), 5, 12345678, KEPT);
    carried(8, word("jaaaaaaa"), 5, 90000000, KEPT);
    carried(8, word("aj"), 5, 9, LOST);
    carried(8, word("bkcldmen"), 5, 1234, LOST);
    carried(8, word("bz"), 5, 1, LOST);
    sentence("below 0, if it begins with z");
    carried(8, word("zb"), 4, -1, KEPT);
    carried(8, word("zjjjjjjj"), 4, -9999999, KEPT);
    carried(8, word("z"), 4, 0, LOST);
    carried(8, word("za"), 4, 0, LOST);
    carried(8, word("zzb"), 4, -1, LOST);
    carried(8, word("kzb"), 4, 1, LOST);
    carried(8, word("z"), 7, 0, LOST);
    carried(8, word("za"), 6, 0, LOST);
    sentence("below 0, if it begins with z, as casts make it");
    carried(8, word("bci"), 1, -128, LOST);
    carried(8, word("bch"), 1, 127, KEPT);
    carried(8, word("zb"), 2, 65535, LOST);
    carried(8, word("gffdf"), 2, 65535, KEPT);
    carried(8, word("dchgi"), 3, -32768, LOST);
    carried(8, word("zdchgi"), 3, -32768, KEPT);
    carried(8, word("jjjjjjjj"), 6, bits(99999999f), LOST);
    carried(8, word("bghhhcbg"), 6, bits(16777216f), KEPT);
    carried(8, word("bghhhcbh"), 6, bits(16777216f), LOST);
    carried(8, word("jjjjjjjj"), 7, bits(99999999.0), KEPT);
  }

  private static void lost() {
    sentence("It is LOST, if what was NARROWED, NARROWED (or WIDENED) back to its KIND, is another VALUE");
    carried(4, 127, 1, 127, KEPT);
    carried(4, 128, 1, -128, LOST);
    carried(1, -1, 2, 65535, KEPT);
    carried(2, 65535, 3, -1, KEPT);
    carried(2, 65535, 1, -1, KEPT);
    carried(2, 128, 1, -128, LOST);
    carried(0, 0, 8, word("a"), LOST);
    carried(8, word("ab"), 4, 1, LOST);
    sentence("It is LOST, if what was NARROWED");
    carried(4, 16777217, 6, bits(16777216f), WIDENED);
    carried(5, (1L << 53) + 1, 7, bits((double) (1L << 53)), WIDENED);
    carried(5, Long.MAX_VALUE, 6, bits((float) Long.MAX_VALUE), WIDENED);
  }

  private static void lostReals() {
    sentence("floats, doubles by their bits");
    carried(7, 17, 6, bits(1.0625f), KEPT);
    carried(7, (1L << 24) + 1, 6, bits(1048576.0625f), LOST);
    carried(6, 17, 4, 1, LOST);
    RecordBridge bridge = Checks.withBook("scheme s double x;scheme t float y,double d,int i,bit o,word w;"
        + "cross s to t y from x,d from x,i from x,o from x,w from x;cross t to s x from y over 999;");
    bridge.make(0);
    bridge.write(0, 0, 0, 7, -1);
    for (int i = 0; i < 20; i++) {
      bridge.cross(0, 0);
      bridge.drop(0, 0);
      bridge.cross(1, 0);
      bridge.drop(1, 0);
    }
    due("a zero below zero", bridge.cell(0, 0, 0, 0), bits(-0.0));
    due("cross", bridge.cross(0, 0), 0);
    due("a float", bridge.cell(1, 0, 0, 0), bits(-0f));
    due("a double", bridge.cell(1, 1, 0, 0), bits(-0.0));
    due("an int", bridge.cell(1, 2, 0, 0), 0);
    due("a bit: it is 0", bridge.cell(1, 3, 0, 0), 0);
    due("a word", bridge.cell(1, 4, 0, 0), word("a"));
    int[] want = {5, 1, 1, 3, 0, 0};
    for (int what = 0; what < 6; what++) {
      due("account " + what, bridge.account(what), want[what]);
    }
    bridge.make(0);
    due("unlike the other zero", bridge.unlike(0, 0, 1), 1);
    due("another field's value", bridge.tells(0, 1), 1);
    due("no origin but it", bridge.origins(0, 0), 1);
  }

  // ---- promises 25 to 28

  private static void crosses() {
    sentence("A CROSSING of a RECORD: the number of the new one");
    RecordBridge bridge = Checks.withBook(THREE + "cross a to b x from x;cross b to c x from x;");
    bridge.make(0);
    bridge.write(0, 0, 0, 4, 5);
    for (int i = 0; i < 8; i++) {
      due("cross", bridge.cross(0, 0), i);
      due("its cell", bridge.cell(1, 0, i, 0), 5);
    }
    due("on", bridge.cross(1, 7), 0);
    sentence("NONE, refused (3), when the other SCHEME has 8, or there are none such.");
    due("a ninth one", bridge.cross(0, 0), -1);
    due("refused", bridge.status(3), 1);
    due("records", bridge.has(5), 8);
    due("acts", bridge.has(3), 11);
    due("no record", bridge.cross(0, 1), -1);
    due("no record", bridge.cross(1, 8), -1);
    due("no crossing", bridge.cross(2, 0), -1);
    due("no crossing", bridge.cross(-1, 0), -1);
    due("no record", bridge.cross(1, -1), -1);
    for (int far : FAR) {
      due("no crossing", bridge.cross(far, 0), -1);
      due("no record", bridge.cross(1, far), -1);
    }
    due("without a book", new RecordBridge().cross(0, 0), -1);
    due("refused", bridge.status(3), 6 + 2 * FAR.length);
    due("acts", bridge.has(3), 11);
    bridge.drop(1, 3);
    due("room again", bridge.cross(0, 0), 7);
    due("of a full one", bridge.cross(1, 0), 1);
  }

  private static void accounts() {
    sentence("0 VALUES carried, 1 of these that WIDENED (one KIND, too), 2 NARROWED but not LOST, 3 LOST, "
        + "4 CELLS of the RECORD that no RULE read, 5 CELLS of the new one that none filled.");
    RecordBridge bridge = Checks.withBook("scheme s int a times 4,int b,word c times 2,bit d times 3;"
        + "scheme t int a times 2,byte b times 4,long c times 3,word d times 4;"
        + "cross s to t b from a,c from a plus b,a from 5,d from d;cross t to s b from a;cross s to t a from 0;");
    bridge.make(0);
    bridge.make(1);
    bridge.write(0, 0, 2, 4, 200);
    bridge.write(0, 3, 1, 0, 1);
    int[][] want = {{10, 3, 4, 3, 2, 3}, {1, 1, 0, 0, 12, 9}, {2, 2, 0, 0, 10, 11}};
    for (int crossing = 0; crossing < 3; crossing++) {
      for (int what = 0; what < 6; what++) {
        due("would " + crossing + " " + what, bridge.would(crossing, 0, what), want[crossing][what]);
      }
      due("cross", bridge.cross(crossing, 0) >= 0, true);
      for (int what = 0; what < 6; what++) {
        due("account " + crossing + " " + what, bridge.account(what), want[crossing][what]);
      }
    }
    bridge = Checks.withBook("scheme s int a times 4;scheme t long a times 4,long b times 2,long c;"
        + "cross s to t c from a,b from a,a from a plus a;cross s to t b from a,c from a;");
    bridge.make(0);
    due("read twice, told once", bridge.would(0, 0, 4), 0);
    due("carried", bridge.would(0, 0, 0), 7);
    due("read twice, told once", bridge.would(1, 0, 4), 2);
    due("filled", bridge.would(1, 0, 5), 4);
  }

  private static void accountsStay() {
    sentence("ACCOUNT of the latest cross()");
    RecordBridge bridge = Checks.withBook("scheme s int a;scheme t byte a,int b;cross s to t a from a;cross s to t "
        + "b from a;");
    bridge.make(0);
    bridge.write(0, 0, 0, 4, 300);
    bridge.cross(0, 0);
    due("lost", bridge.account(3), 1);
    bridge.would(1, 0, 3);
    bridge.origins(1, 0);
    bridge.least(0, 0, 1, -1);
    due("what is TRIED leaves it", bridge.account(3), 1);
    bridge.write(0, 0, 0, 4, 3);
    due("what is written leaves it", bridge.account(3), 1);
    bridge.cross(1, 0);
    due("the latest", bridge.account(3), 0);
    due("the latest", bridge.account(1), 1);
    bridge.undo();
    due("undone, it stays", bridge.account(1), 1);
    due("no record", bridge.cross(0, 1), -1);
    due("no crossing", bridge.cross(2, 0), -1);
    due("refused, it stays", bridge.account(1), 1);
    sentence("NONE ahead of any, or for others.");
    RecordBridge none = new RecordBridge();
    due("without a book", none.account(0), -1);
    RecordBridge fresh = Checks.withBook(THREE + "cross a to b x from x;");
    fresh.make(0);
    fresh.would(0, 0, 0);
    fresh.cross(0, 5);
    for (int what = 0; what < 6; what++) {
      due("ahead of any", fresh.account(what), -1);
    }
    for (int what : new int[] {-1, 6, 7, Integer.MAX_VALUE, Integer.MIN_VALUE}) {
      due("others", bridge.account(what), -1);
    }
  }

  private static void tried() {
    sentence("ACCOUNT, were a RECORD carried by a CROSSING (TRIED, whether or not there is room)");
    RecordBridge bridge = Checks.withBook("scheme s int a;scheme t byte a,int b;cross s to t a from a;");
    bridge.make(0);
    bridge.write(0, 0, 0, 4, 300);
    int[] want = {1, 0, 0, 1, 0, 1};
    for (int made = 0; made <= 8; made++) {
      for (int what = 0; what < 6; what++) {
        due("with " + made + ", would " + what, bridge.would(0, 0, what), want[what]);
      }
      due("nothing is made", bridge.has(5), made);
      due("no act", bridge.has(3), 2 + made);
      bridge.make(1);
    }
    due("the record stays", bridge.cell(0, 0, 0, 0), 300);
    due("places stay", bridge.get(1, 0, 0, 1), 0);
    sentence("NONE when there are none such, or for others.");
    for (int what : new int[] {-1, 6, Integer.MAX_VALUE, Integer.MIN_VALUE}) {
      due("others", bridge.would(0, 0, what), -1);
    }
    due("no record", bridge.would(0, 1, 0), -1);
    due("no record", bridge.would(0, -1, 0), -1);
    due("no crossing", bridge.would(1, 0, 0), -1);
    due("no crossing", bridge.would(-1, 0, 0), -1);
    for (int far : FAR) {
      due("no record", bridge.would(0, far, 0), -1);
      due("no crossing", bridge.would(far, 0, 0), -1);
    }
    due("without a book", new RecordBridge().would(0, 0, 0), -1);
    due("not refused", bridge.status(3), 0);
  }

  private static void rounds() {
    sentence("CELLS that are unlike in a RECORD carried by one CROSSING, then back by another one (TRIED), "
        + "as bits by their order");
    RecordBridge bridge = Checks.withBook("scheme s bit o,int i times 4,word w times 2,float f times 2;"
        + "scheme t byte i times 3,word w,double f times 4;scheme u int i;"
        + "cross s to t i from i,w from w,f from f;cross t to s f from f,w from w,i from i;"
        + "cross t to u i from i;cross u to t i from i;");
    bridge.make(0);
    due("all 0", bridge.round(0, 1, 0), 0);
    bridge.write(0, 0, 0, 0, 1);
    due("the first cell", bridge.round(0, 1, 0), 1);
    bridge.write(0, 1, 0, 4, 127);
    bridge.write(0, 1, 1, 4, 128);
    bridge.write(0, 1, 2, 4, 256);
    bridge.write(0, 1, 3, 4, 1);
    due("narrowed, not carried", bridge.round(0, 1, 0), 0b11101);
    bridge.put(0, 2, 0, 8, 5);
    bridge.put(0, 2, 1, 8, 5);
    bridge.write(0, 3, 0, 6, 1);
    bridge.write(0, 3, 1, 6, -1);
    due("of several", bridge.round(0, 1, 0), 0b1011101);
    due("nothing is made", bridge.has(2), 1);
    for (int i = 0; i < 8; i++) {
      bridge.make(1);
    }
    due("without room", bridge.round(0, 1, 0), 0b1011101);
    due("the other way", bridge.round(1, 0, 7), 0);
    RecordBridge wide = Checks.withBook("scheme s int a times 4,int b times 4,int c times 4,int d times 4,int e "
        + "times 4,"
        + "int f times 4;scheme t bit o;cross s to t o from a;cross t to s a from o;");
    wide.make(0);
    for (int field = 0; field < 6; field++) {
      for (int cell = 0; cell < 4; cell++) {
        wide.write(0, field, cell, 4, 2);
      }
    }
    due("all cells", wide.round(0, 1, 0), (1 << 24) - 1);
    sentence("NOTHING when the second does not lead back, or there are none such.");
    int[][] none = {{0, 0, 0}, {0, 2, 0}, {0, 3, 0}, {2, 0, 0}, {2, 1, 0}, {1, 3, 0}, {0, 4, 0}, {4, 1, 0}, {-1, 1, 0},
        {0, -1, 0}, {0, 1, 1}, {0, 1, -1}, {3, 2, 0}, {1, 0, 8}};
    for (int[] at : none) {
      due("round " + at[0] + " " + at[1] + " " + at[2], bridge.round(at[0], at[1], at[2]), NOTHING);
    }
    for (int far : FAR) {
      due("no crossing", bridge.round(far, 1, 0), NOTHING);
      due("none back", bridge.round(0, far, 0), NOTHING);
      due("no record", bridge.round(0, 1, far), NOTHING);
    }
  }

  // ---- term III, promises 29 to 34

  private static int proved(String first, String second, String there, String home) {
    return Checks.withBook("scheme s " + first + ";scheme t " + second + ";cross s to t " + there + ";cross t to s "
        + home + ";").proved(0, 1);
  }

  private static void provedKinds() {
    sentence("to a FIELD of a KIND to which it WIDENS (int to float, long to float, to double aside)");
    String[] whole = {"0", "134567", "24567", "34567", "457", "5", "67", "7", "8"};
    for (int kind = 0; kind < 9; kind++) {
      for (int to = 0; to < 9; to++) {
        int got = proved(KINDS[kind] + " a", KINDS[to] + " b", "b from a", "a from b");
        due("proved " + KINDS[kind] + " " + KINDS[to], got, whole[kind].indexOf('0' + to) >= 0 ? 1 : 0);
      }
    }
    sentence("of no fewer CELLS");
    for (int cells = 1; cells <= 4; cells++) {
      for (int targets = 1; targets <= 4; targets++) {
        due("proved " + cells + " " + targets, proved("int a times " + cells, "long b times " + targets, "b from a",
            "a from b"), targets >= cells ? 1 : 0);
      }
    }
  }

  private static void provedRules() {
    String fields = "bit o,int a,int b,byte c,word d,char e";
    sentence("of which a RULE of c carries it alone");
    due("by", proved(fields, "long x", "x from a by 1", "a from x"), 0);
    due("over", proved(fields, "long x", "x from a over 1", "a from x"), 0);
    due("plus", proved(fields, "long x", "x from a plus a", "a from x"), 0);
    due("a number", proved(fields, "long x", "x from 0", "a from x"), 0);
    due("one of several", proved(fields, "bit x,int y,int z", "x from a,y from a,z from b", "a from y"), 2);
    due("each of several", proved(fields, "bit x,int y,int z", "x from o,y from a,z from c", "a from y,o from x,c "
        + "from z"),
        0b1011);
    due("the last one", proved(fields, "double x", "x from e", "e from x"), 0b100000);
    sentence("a RULE of d carries that alone back to it");
    due("none", proved(fields, "long x", "x from a", "b from 5"), 0);
    due("to another one", proved(fields, "long x", "x from a", "b from x"), 0);
    due("from another one", proved(fields, "long x,long y", "x from a", "a from y"), 0);
    due("by", proved(fields, "long x", "x from a", "a from x by 1"), 0);
    due("over", proved(fields, "long x", "x from a", "a from x over 1"), 0);
    due("plus", proved(fields, "long x", "x from a", "a from x plus x"), 0);
    due("a number", proved(fields, "long x", "x from a", "a from 0"), 0);
    due("crossed over", proved(fields, "int x,int y", "x from a,y from b", "a from y,b from x"), 0);
    due("both ways", proved(fields, "int x,int y", "x from b,y from a", "a from y,b from x"), 6);
    sentence("d back from the SCHEME to which c leads");
    due("by another scheme", Checks.withBook(THREE + cross("ab") + cross("bc") + cross("ca")).proved(0, 1), -1);
    due("by the third scheme", Checks.withBook(THREE + cross("ab") + cross("bc") + cross("ca")).proved(0, 2), -1);
    sentence("PROVED, as bits; NONE when the second does not lead back, or there are none such.");
    RecordBridge bridge = Checks.withBook(THREE + "cross a to b x from x;cross b to a x from x;cross b to c x from x;"
        + "cross c to a x from x;");
    due("there and back", bridge.proved(0, 1), 1);
    due("the other way", bridge.proved(1, 0), 1);
    int[][] none = {{0, 0}, {0, 2}, {0, 3}, {1, 1}, {1, 2}, {2, 1}, {2, 3}, {3, 0}, {3, 2}, {0, 4}, {4, 0}, {-1, 0},
        {0, -1}};
    for (int[] at : none) {
      due("proved " + at[0] + " " + at[1], bridge.proved(at[0], at[1]), -1);
    }
    for (int far : FAR) {
      due("no crossing", bridge.proved(far, 1), -1);
      due("none back", bridge.proved(0, far), -1);
    }
    due("without a book", new RecordBridge().proved(0, 1), -1);
  }

  private static void wayIs(String crossings, int from, int to, int... steps) {
    RecordBridge bridge = Checks.withBook(THREE + crossings);
    due("way of " + crossings, bridge.way(from, to, -1), steps.length == 0 ? -1 : steps.length);
    for (int k = 0; k < 4; k++) {
      due("step " + k + " of " + crossings, bridge.way(from, to, k), k < steps.length ? steps[k] : -1);
    }
    for (int far : FAR) {
      due("no step", bridge.way(from, to, far), -1);
    }
  }

  private static String cross(String ends) {
    return "cross " + ends.charAt(0) + " to " + ends.charAt(1) + " x from x;";
  }

  private static void ways() {
    sentence("A WAY from a SCHEME to another one: CROSSINGS one behind the other, none twice, 3 at most");
    wayIs(cross("ab"), 0, 1, 0);
    wayIs(cross("ab"), 1, 0);
    wayIs(cross("ab") + cross("cb"), 0, 2);
    wayIs(cross("bc") + cross("ab"), 0, 2, 1, 0);
    wayIs("", 0, 1);
    sentence("the SHORTEST has fewest");
    wayIs(cross("ab") + cross("bc") + cross("ac"), 0, 2, 2);
    wayIs(cross("ca") + cross("ab") + cross("bc") + cross("cb"), 2, 1, 3);
    wayIs(cross("ab") + cross("ba") + cross("bc"), 0, 2, 0, 2);
    sentence("of like ones the least, compared one by one");
    wayIs(cross("ab") + cross("ab"), 0, 1, 0);
    wayIs(cross("bc") + cross("bc") + cross("ab") + cross("ab"), 0, 2, 2, 0);
    wayIs(cross("bc") + cross("ab") + cross("ab") + cross("bc"), 0, 2, 1, 0);
    wayIs(cross("ab") + cross("bc") + cross("bc") + cross("ab"), 0, 2, 0, 1);
    sentence("a SCHEME to itself: none");
    wayIs(cross("ab") + cross("ba"), 0, 0);
    wayIs(cross("ab") + cross("ba"), 1, 1);
    sentence("its k-th CROSSING; k NONE: how many. NONE when there is none, or there are none such.");
    RecordBridge bridge = Checks.withBook(THREE + cross("ab") + cross("bc"));
    due("how many", bridge.way(0, 2, RecordBridge.NONE), 2);
    due("the first", bridge.way(0, 2, 0), 0);
    due("the second", bridge.way(0, 2, 1), 1);
    due("no third", bridge.way(0, 2, 2), -1);
    due("no scheme", bridge.way(0, 3, -1), -1);
    due("no scheme", bridge.way(3, 0, -1), -1);
    for (int far : new int[] {-1, -2, 3, Integer.MAX_VALUE, Integer.MIN_VALUE}) {
      due("no scheme", bridge.way(far, 2, -1), -1);
      due("no scheme", bridge.way(0, far, -1), -1);
      due("no scheme", bridge.way(far, far, -1), -1);
    }
    due("without a book", new RecordBridge().way(0, 1, -1), -1);
  }

  /** What was asked ahead counts for nothing. */
  private static void waysInTurn() {
    sentence("The SHORTEST WAY between two SCHEMES");
    RecordBridge bridge = withInt(THREE + cross("ab") + cross("bc") + cross("ac"), 5);
    int[][] want = {{-1, 1, 1}, {-1, -1, 1}, {-1, -1, -1}};
    int[][] first = {{-1, 0, 2}, {-1, -1, 1}, {-1, -1, -1}};
    for (int i = 0; i < 81; i++) {
      int from = i % 3;
      int to = i / 3 % 3;
      due("way " + from + " " + to, bridge.way(from, to, -1), want[from][to]);
      int other = i / 9 % 3;
      int another = i / 27;
      due("least " + other + " " + another, bridge.least(other, 0, another, 0), other == 0 ? first[0][another] : -1);
      due("step of way " + from + " " + to, bridge.way(from, to, 0), first[from][to]);
      due("lost", bridge.least(other, 0, another, -1), other == 0 && another > 0 ? 0 : -1);
    }
    sentence("all its CROSSINGS together have fewest LOST");
    RecordBridge lossy = withInt("scheme a int x;scheme b int x;scheme c byte x;" + cross("ab") + cross("bc"), 300);
    for (int i = 0; i < 3; i++) {
      due("lost by two", lossy.least(0, 0, 2, -1), 1);
      due("lost by one", lossy.least(0, 0, 1, -1), 0);
    }
  }

  private static void leastIs(RecordBridge bridge, int from, int record, int to, int lost, int... steps) {
    due("lost from " + from + " to " + to, bridge.least(from, record, to, -1), lost);
    for (int k = 0; k < 4; k++) {
      due("step " + k, bridge.least(from, record, to, k), k < steps.length ? steps[k] : -1);
    }
  }

  private static RecordBridge withInt(String book, int value) {
    RecordBridge bridge = Checks.withBook(book);
    bridge.make(0);
    bridge.write(0, 0, 0, 4, value);
    return bridge;
  }

  private static void least() {
    String three = "scheme a int x;scheme b byte x,byte y;scheme c long x,byte y;";
    sentence("by which, TRIED, all its CROSSINGS together have fewest LOST");
    RecordBridge bridge = withInt(three + "cross a to b x from x,y from x;cross a to b x from x;", 300);
    leastIs(bridge, 0, 0, 1, 1, 1);
    due("nothing is made", bridge.has(2), 1);
    due("no act", bridge.has(3), 2);
    due("no account", bridge.account(0), -1);
    bridge.write(0, 0, 0, 4, 3);
    leastIs(bridge, 0, 0, 1, 0, 0);
    for (int i = 0; i < 8; i++) {
      bridge.make(1);
    }
    leastIs(bridge, 0, 0, 1, 0, 0);
    bridge = withInt(three + "cross a to b x from x,y from x;cross a to c x from x;cross c to b x from x;", 300);
    leastIs(bridge, 0, 0, 1, 1, 1, 2);
    bridge = withInt(three + "cross a to b x from x,y from x;cross a to c y from x;cross c to b x from x;", 300);
    leastIs(bridge, 0, 0, 1, 1, 1, 2);
    bridge = withInt(three + "cross a to b x from x;cross a to c y from x;cross c to b x from x;", 300);
    leastIs(bridge, 0, 0, 1, 1, 0);
    sentence("of like ones the SHORTEST as above");
    bridge = withInt(three + "cross a to c x from x;cross c to b x from y;cross a to b x from 5;cross a to b x from "
        + "6;", 300);
    leastIs(bridge, 0, 0, 1, 0, 2);
    bridge = withInt(three + "cross a to c x from x;cross a to c x from x;cross c to b x from y;cross c to b y from "
        + "y;", 3);
    leastIs(bridge, 0, 0, 1, 0, 0, 2);
    bridge = withInt(three + "cross c to b x from x;cross c to b x from y;cross a to c x from x;cross a to c x from "
        + "x;", 300);
    leastIs(bridge, 0, 0, 1, 0, 2, 1);
    sentence("The WAY of a RECORD from its SCHEME");
    bridge = withInt(three + "cross a to b x from x,y from x;cross a to c x from x;cross c to b x from x;", 300);
    bridge.make(0);
    leastIs(bridge, 0, 0, 1, 1, 1, 2);
    leastIs(bridge, 0, 1, 1, 0, 0);
  }

  private static void leastOfThree() {
    String three = "scheme a int x;scheme b byte x,byte y;scheme c long x,byte y;";
    sentence("CROSSINGS one behind the other, none twice, 3 at most");
    RecordBridge bridge = withInt(three
        + "cross a to c x from x;cross c to a x from 5;cross a to b x from x,y from x;", 300);
    leastIs(bridge, 0, 0, 1, 0, 0, 1, 2);
    bridge = withInt("scheme a int x;scheme b byte z;scheme c int y;"
        + "cross a to c y from x;cross c to a x from y over 100;cross a to c y from x;cross c to b z from y;", 300);
    leastIs(bridge, 0, 0, 1, 1, 0, 3);
    bridge = withInt("scheme a int x;scheme b byte z;scheme c int y;"
        + "cross a to b z from x;cross b to a x from z;cross a to c y from x;cross c to a x from y;", 300);
    leastIs(bridge, 0, 0, 1, 1, 0);
    leastIs(bridge, 0, 0, 2, 0, 2);
    bridge = withInt("scheme a int x;scheme b byte z;scheme c int y;"
        + "cross a to b z from 1;cross b to a x from z;cross a to c y from x by 1;cross c to a x from y;", 300);
    bridge.write(0, 0, 0, 4, Integer.MAX_VALUE);
    leastIs(bridge, 0, 0, 2, 0, 2);
    bridge = withInt("scheme a int x;scheme b byte z;scheme c byte y;"
        + "cross a to b z from 1;cross b to a x from z;cross a to c y from x;cross b to c y from z by 200;", 300);
    leastIs(bridge, 0, 0, 2, 0, 0, 1, 2);
  }

  private static void leastRefused() {
    sentence("its k-th CROSSING; k NONE: how many LOST. NONE when there is none, or there are none such.");
    RecordBridge bridge = withInt(THREE + cross("ab") + cross("ba"), 5);
    due("how many", bridge.least(0, 0, 1, RecordBridge.NONE), 0);
    due("the first", bridge.least(0, 0, 1, 0), 0);
    due("no second", bridge.least(0, 0, 1, 1), -1);
    due("to itself", bridge.least(0, 0, 0, -1), -1);
    due("no way", bridge.least(0, 0, 2, -1), -1);
    due("no way", bridge.least(0, 0, 2, 0), -1);
    due("no record", bridge.least(0, 1, 1, -1), -1);
    due("no record", bridge.least(0, -1, 1, -1), -1);
    due("no record there", bridge.least(1, 0, 0, -1), -1);
    due("no scheme", bridge.least(0, 0, 3, -1), -1);
    due("no scheme", bridge.least(3, 0, 0, -1), -1);
    due("no scheme", bridge.least(-1, 0, 0, -1), -1);
    due("no scheme", bridge.least(0, 0, -1, -1), -1);
    for (int far : FAR) {
      due("no scheme", bridge.least(far, 0, 1, -1), -1);
      due("no record", bridge.least(0, far, 1, -1), -1);
      due("no scheme", bridge.least(0, 0, far, -1), -1);
      due("no step", bridge.least(0, 0, 1, far), -1);
    }
    due("without a book", new RecordBridge().least(0, 0, 1, -1), -1);
  }

  private static void origins() {
    sentence("RECORDS of its first SCHEME that would be carried to a RECORD like it (by all VALUES)");
    RecordBridge bridge = Checks.withBook("scheme s int a times 2,word w;scheme t byte a times 3,word w,bit o;"
        + "cross s to t a from a,w from w;");
    for (int i = 0; i < 4; i++) {
      bridge.make(0);
    }
    bridge.make(1);
    due("all", bridge.origins(0, 0), 15);
    bridge.write(0, 0, 1, 4, 256);
    due("narrowed", bridge.origins(0, 0), 15);
    bridge.write(0, 0, 3, 4, 1);
    due("the second cell", bridge.origins(0, 0), 0b1101);
    bridge.put(0, 1, 2, 8, 5);
    due("another field", bridge.origins(0, 0), 0b1001);
    bridge.write(1, 0, 2, 1, 1);
    due("a cell that none fills", bridge.origins(0, 0), 0);
    bridge.undo();
    bridge.write(1, 2, 0, 0, 1);
    due("a field that none fills", bridge.origins(0, 0), 0);
    bridge.undo();
    due("as they were", bridge.origins(0, 0), 0b1001);
    due("one that is carried", bridge.cross(0, 1), 1);
    due("comes from it", bridge.origins(0, 1), 0b10);
    due("nothing is made", bridge.has(4), 4);
    bridge.drop(0, 0);
    due("dropped", bridge.origins(0, 0), 0b100);
  }

  private static void originsOfMany() {
    sentence("ORIGINS of a RECORD of the SCHEME to which a CROSSING leads, as bits; NONE when there are none such.");
    RecordBridge bridge = Checks.withBook(THREE + cross("ab") + cross("ba"));
    bridge.make(1);
    due("of no records", bridge.origins(0, 0), 0);
    for (int i = 0; i < 8; i++) {
      bridge.make(0);
    }
    due("of eight", bridge.origins(0, 0), 255);
    due("by the other one", bridge.origins(1, 7), 1);
    due("no record there", bridge.origins(0, 1), -1);
    due("no record there", bridge.origins(0, 7), -1);
    due("no record", bridge.origins(0, -1), -1);
    due("no record", bridge.origins(1, 8), -1);
    due("no crossing", bridge.origins(2, 0), -1);
    due("no crossing", bridge.origins(-1, 0), -1);
    for (int far : FAR) {
      due("no crossing", bridge.origins(far, 0), -1);
      due("no record", bridge.origins(0, far), -1);
    }
    due("without a book", new RecordBridge().origins(0, 0), -1);
  }

  private static void tellingIs(RecordBridge bridge, int field, int most) {
    due("the field", bridge.tells(0, 0), field);
    due("how many", bridge.tells(0, 1), most);
  }

  private static void telling() {
    sentence("of the FIELDS of a SCHEME, that by whose VALUES (all CELLS) the most RECORDS that are alike are fewest");
    RecordBridge bridge = Checks.withBook("scheme s int a,int b times 2,int c;scheme t int a;");
    for (int i = 0; i < 8; i++) {
      bridge.make(0);
    }
    for (int i = 0; i < 8; i++) {
      bridge.write(0, 0, i, 4, i / 4);
      bridge.write(0, 2, i, 4, Math.max(0, i - 4));
    }
    tellingIs(bridge, 0, 4);
    for (int i = 0; i < 8; i++) {
      bridge.write(0, 1, 2 * i + 1, 4, i / 3);
    }
    tellingIs(bridge, 1, 3);
    for (int i = 0; i < 8; i++) {
      bridge.write(0, 1, 2 * i, 4, i % 3);
    }
    tellingIs(bridge, 1, 1);
    for (int i = 0; i < 8; i++) {
      bridge.write(0, 2, i, 4, -i);
    }
    sentence("of like ones the first");
    tellingIs(bridge, 1, 1);
    for (int i = 0; i < 8; i++) {
      bridge.write(0, 0, i, 4, 7 - i);
    }
    tellingIs(bridge, 0, 1);
    sentence("TELLING of a SCHEME: the FIELD (what 0), how many RECORDS are alike at the most (1).");
    RecordBridge one = Checks.withBook("scheme s int a,int b;");
    one.make(0);
    tellingIs(one, 0, 1);
    one.copy(0, 0);
    tellingIs(one, 0, 2);
    one.write(0, 1, 1, 4, 1);
    tellingIs(one, 1, 1);
    sentence("NONE without RECORDS, for others, or when there is none such.");
    due("without records", bridge.tells(1, 0), -1);
    due("without records", bridge.tells(1, 1), -1);
    one.drop(0, 0);
    one.drop(0, 0);
    tellingIs(one, -1, -1);
    for (int no : new int[] {-1, 2, Integer.MAX_VALUE, Integer.MIN_VALUE}) {
      due("others", bridge.tells(0, no), -1);
      due("no scheme", bridge.tells(no, 0), -1);
    }
    due("without a book", new RecordBridge().tells(0, 0), -1);
  }

  /** The telling field counted a second time. */
  private static void tellingByAllCells() {
    sentence("by whose VALUES (all CELLS) the most RECORDS that are alike are fewest");
    int[] cells = {1, 3, 2, 4};
    for (int run = 0; run < 40; run++) {
      RecordBridge bridge = Checks.withBook("scheme s bit a,int b times 3,bit c times 2,byte d times 4;");
      int records = 1 + run % 8;
      int[][] values = new int[4][32];
      long drawn = run + 1;
      for (int record = 0; record < records; record++) {
        bridge.make(0);
        for (int field = 0; field < 4; field++) {
          for (int cell = 0; cell < cells[field]; cell++) {
            drawn = (1103515245 * drawn + 12345) % (1L << 31);
            int value = (drawn >> 16 & 7) > run % 5 ? 0 : (int) (drawn >> 20 & 1);
            values[field][record * cells[field] + cell] = value;
            bridge.write(0, field, record * cells[field] + cell, field == 1 || field == 3 ? 1 : 0, value);
          }
        }
      }
      int telling = -1;
      int fewest = 9;
      for (int field = 0; field < 4; field++) {
        int most = 0;
        for (int one = 0; one < records; one++) {
          int alike = 0;
          for (int other = 0; other < records; other++) {
            boolean isAlike = true;
            for (int cell = 0; cell < cells[field]; cell++) {
              isAlike &= values[field][one * cells[field] + cell] == values[field][other * cells[field] + cell];
            }
            alike += isAlike ? 1 : 0;
          }
          most = Math.max(most, alike);
        }
        if (most < fewest) {
          fewest = most;
          telling = field;
        }
      }
      tellingIs(bridge, telling, fewest);
    }
    RecordBridge bridge = Checks.withBook("scheme s int a times 3,bit b;");
    for (int i = 0; i < 8; i++) {
      bridge.make(0);
      tellingIs(bridge, 0, i + 1);
    }
    for (int place = 0; place < 24; place++) {
      bridge.write(0, 0, place, 4, 1);
      boolean whole = place % 3 == 2;
      int records = place / 3 + (whole ? 1 : 0);
      int most = whole ? Math.max(records, 8 - records) : Math.max(records, 7 - records);
      due("with " + (place + 1) + " ones", bridge.tells(0, 1), most);
    }
  }

  private static void idle() {
    sentence("FIELDS of a SCHEME to which no RULE of any CROSSING leads (what 0), which none reads (1), as bits");
    RecordBridge bridge = Checks.withBook("scheme s int a,int b,int c,int d,int e,int f;scheme t int a,int b;scheme "
        + "u int a;"
        + "cross s to t a from f plus b;cross s to u a from d over 2;cross t to s f from b,a from 5;cross t to s c "
        + "from 1;");
    int[][] want = {{0b011010, 0b010101}, {0b10, 0b01}, {0, 1}};
    for (int scheme = 0; scheme < 3; scheme++) {
      due("none leads to", bridge.idle(scheme, 0), want[scheme][0]);
      due("none reads", bridge.idle(scheme, 1), want[scheme][1]);
    }
    RecordBridge without = Checks.withBook("scheme s int a,int b,int c,int d,int e,int f;scheme t int a;");
    due("without crossings", without.idle(0, 0), 63);
    due("without crossings", without.idle(0, 1), 63);
    due("without crossings", without.idle(1, 0), 1);
    sentence("NONE for others, or when there is none such.");
    for (int no : new int[] {-1, 3, Integer.MAX_VALUE, Integer.MIN_VALUE}) {
      due("others", bridge.idle(0, no), -1);
      due("no scheme", bridge.idle(no, 0), -1);
    }
    due("others", bridge.idle(0, 2), -1);
    due("without a book", new RecordBridge().idle(0, 0), -1);
  }
}
