/** Promises 25 to 34: crossings, their accounts, what comes back, ways, origins, the telling field, idle fields. */
public final class CrossTest {
  private static final Checks CHECKS = new Checks();
  private static final long NOTHING = RecordBridge.NOTHING;
  private static final int WIDENED = 1;
  private static final int KEPT = 2;
  private static final int LOST = 3;
  private static final String[] KINDS = {"bit", "byte", "char", "short", "int", "long", "float", "double", "word"};

  public static void main(String[] args) {
    widened();
    narrowedNumbers();
    narrowedBitsAndWords();
    smallestReals();
    madeOfTwo();
    madeOfReals();
    numbers();
    crosses();
    accounts();
    cellsThatBothHave();
    rounds();
    proofs();
    ways();
    waysOfOthers();
    leastWays();
    originsOfRecords();
    telling();
    idleFields();
    CHECKS.close("CrossTest");
  }

  private static void due(String what, long got, long want) {
    CHECKS.due(what, got, want);
  }

  private static void due(String what, boolean got, boolean want) {
    CHECKS.due(what, got, want);
  }

  private static long bits(float real) {
    return Float.floatToIntBits(real);
  }

  private static long bits(double real) {
    return Double.doubleToLongBits(real);
  }

  private static long word(String letters) {
    return Checks.word(letters);
  }

  /** One value of a kind, put as v, carried to another kind: what is made of it, and what the account says. */
  private static void carried(int kind, long v, int to, long want, int account) {
    RecordBridge bridge = Checks.withBook("scheme s " + KINDS[kind] + " x;scheme t " + KINDS[to] + " y;"
        + "cross s to t y from x;");
    bridge.make(0);
    String at = KINDS[kind] + " " + v + " to " + KINDS[to];
    due("put " + at, bridge.put(0, 0, 0, kind, v), true);
    crossed(bridge, at, to, want, account);
  }

  private static void crossed(RecordBridge bridge, String at, int to, long want, int account) {
    for (int what = 1; what < 4; what++) {
      due("would of " + at + ", " + what, bridge.would(0, 0, what), what == account ? 1 : 0);
    }
    due("cross " + at, bridge.cross(0, 0), 0);
    due(at, bridge.cell(1, 0, 0, 0), want);
    due("carried " + at, bridge.account(0), 1);
    for (int what = 1; what < 4; what++) {
      due("account of " + at + ", " + what, bridge.account(what), what == account ? 1 : 0);
    }
    due("widens " + at, bridge.rule(0, 0, 4), account == WIDENED ? 1 : 0);
  }

  private static void widened() {
    carried(0, 1, 0, 1, WIDENED);
    carried(8, word("zebra"), 8, word("zebra"), WIDENED);
    carried(1, -5, 1, -5, WIDENED);
    carried(1, -5, 3, -5, WIDENED);
    carried(1, -5, 7, bits(-5.0), WIDENED);
    carried(2, 65535, 4, 65535, WIDENED);
    carried(2, 65535, 6, bits(65535f), WIDENED);
    carried(3, -9, 5, -9, WIDENED);
    carried(4, 16777217, 6, bits(16777216f), WIDENED);
    carried(5, Long.MAX_VALUE, 7, bits(9.223372036854775807E18), WIDENED);
    carried(5, 36028799166447617L, 6, bits((float) 36028799166447617L), WIDENED);
    carried(6, 3, 7, bits(0.1875), WIDENED);
  }

  private static void narrowedNumbers() {
    carried(4, 300, 1, 44, LOST);
    carried(4, 100, 1, 100, KEPT);
    carried(1, -1, 2, 65535, KEPT);
    carried(3, -1, 2, 65535, KEPT);
    carried(2, 65535, 3, -1, KEPT);
    carried(2, 200, 1, -56, LOST);
    carried(2, 65500, 1, -36, KEPT);
    carried(5, 1L << 32, 4, 0, LOST);
    carried(5, -7, 4, -7, KEPT);
    carried(7, 16 * 1000, 1, -24, LOST);
    carried(7, 24, 4, 1, LOST);
    carried(7, -24, 4, -1, LOST);
    carried(7, 32, 4, 2, KEPT);
    carried(7, Long.MAX_VALUE, 4, Integer.MAX_VALUE, LOST);
    carried(7, Long.MIN_VALUE, 3, 0, LOST);
    carried(7, -16, 2, 65535, LOST);
    carried(7, 16777217L, 6, bits(1048576.0625f), LOST);
    carried(7, 16777216L, 6, bits(1048576f), KEPT);
    carried(6, 40, 5, 2, LOST);
    carried(6, 48, 5, 3, KEPT);
    carried(6, Long.MAX_VALUE, 4, 576460752303423488L > Integer.MAX_VALUE ? Integer.MAX_VALUE : 0, LOST);
    carried(6, Long.MAX_VALUE, 5, 576460752303423488L, KEPT);
  }

  private static void narrowedBitsAndWords() {
    carried(4, 0, 0, 0, KEPT);
    carried(4, 1, 0, 1, KEPT);
    carried(4, 5, 0, 1, LOST);
    carried(4, -1, 0, 1, LOST);
    carried(7, 1, 0, 1, LOST);
    carried(7, 16, 0, 1, KEPT);
    carried(0, 1, 4, 1, KEPT);
    carried(0, 0, 7, bits(0.0), KEPT);
    carried(0, 1, 6, bits(1f), KEPT);
    carried(0, 1, 8, word("b"), KEPT);
    carried(0, 0, 8, word("a"), LOST);
    carried(4, 0, 8, word("a"), KEPT);
    carried(4, 120, 8, word("bca"), KEPT);
    carried(4, -120, 8, word("zbca"), KEPT);
    carried(4, 12345678, 8, word("bcdefghi"), KEPT);
    carried(4, 123456789, 8, word("cdefghij"), LOST);
    carried(4, -1234567, 8, word("zbcdefgh"), KEPT);
    carried(4, -12345678, 8, word("bcdefghi"), LOST);
    carried(5, Long.MIN_VALUE, 8, word("fehhfiai"), LOST);
    carried(5, 100000000, 8, word("aaaaaaaa"), LOST);
    carried(2, 65, 8, word("gf"), KEPT);
    carried(7, -24, 8, word("zb"), LOST);
    carried(7, -32, 8, word("zc"), KEPT);
    carried(6, 160, 8, word("ba"), KEPT);
    carried(8, 0, 0, 0, LOST);
    carried(8, word("a"), 0, 1, LOST);
    carried(8, word("b"), 0, 1, KEPT);
    carried(8, 0, 4, 0, LOST);
    carried(8, word("a"), 4, 0, KEPT);
    carried(8, word("cd"), 4, 23, KEPT);
    carried(8, word("zcd"), 4, -23, KEPT);
    carried(8, word("czd"), 4, 23, LOST);
    carried(8, word("ad"), 4, 3, LOST);
    carried(8, word("z"), 4, 0, LOST);
    carried(8, word("kcxdy"), 5, 23, LOST);
    carried(8, word("jjjjjjjj"), 5, 99999999, KEPT);
    carried(8, word("daa"), 1, 44, LOST);
    carried(8, word("zb"), 2, 65535, LOST);
    carried(8, word("zbc"), 7, bits(-12.0), KEPT);
    carried(8, word("zz"), 6, bits(0f), LOST);
  }

  /** Reals by crossings to and fro down to those that have no place: as Java makes them. */
  private static void smallestReals() {
    String book = "scheme s double x,float f;scheme t double x,float f;"
        + "cross s to t x from x over 999,f from x over 999;cross t to s x from x over 999,f from f over 999;";
    RecordBridge bridge = Checks.withBook(book);
    bridge.make(0);
    bridge.write(0, 0, 0, 7, -16);
    double x = -1;
    float f = 0;
    for (int i = 0; i < 120; i++) {
      int from = i % 2;
      due("cross", bridge.cross(from, 0), 0);
      f = (float) (from == 0 ? x / 999 : (double) f / 999);
      x = x / 999;
      due("double " + i, bridge.cell(1 - from, 0, 0, 0), bits(x));
      due("float " + i, bridge.cell(1 - from, 1, 0, 0), bits(f));
      bridge.drop(from, 0);
    }
    due("a zero below zero", bridge.cell(0, 0, 0, 0), Long.MIN_VALUE);
    bridge.make(0);
    due("it is unlike zero", bridge.unlike(0, 0, 1), 3);
    bridge.drop(0, 1);
    RecordBridge other = Checks.withBook("scheme s double x;scheme t float y,int i;"
        + "cross s to t y from x,i from x;cross t to s x from y over 999;");
    other.make(0);
    other.write(0, 0, 0, 7, -1);
    for (int i = 0; i < 20; i++) {
      other.cross(0, 0);
      other.drop(0, 0);
      other.cross(1, 0);
      other.drop(1, 0);
    }
    due("a zero below zero", other.cell(0, 0, 0, 0), Long.MIN_VALUE);
    due("is kept as a float", other.would(0, 0, KEPT), 1);
    due("is lost as an int", other.would(0, 0, LOST), 1);
    other.cross(0, 0);
    due("as a float", other.cell(1, 0, 0, 0), bits(-0f));
  }

  /** What a source makes of fields put as a and b, read as a kind that it widens to or is. */
  private static void made(String fields, int one, long a, int two, long b, String source, int to, long want) {
    RecordBridge bridge = Checks.withBook("scheme s " + fields + ";scheme t " + KINDS[to] + " y;"
        + "cross s to t y from " + source + ";");
    bridge.make(0);
    due("put", bridge.put(0, 0, 0, one, a), true);
    due("put", bridge.put(0, 1, 0, two, b), true);
    crossed(bridge, fields + " " + a + " " + b + " " + source, to, want, WIDENED);
  }

  private static void madeOfTwo() {
    made("int a,int b", 4, 7, 4, 5, "a by 3", 5, 21);
    made("byte a,char b", 1, -7, 2, 65535, "a by 999", 5, -6993);
    made("byte a,char b", 1, -7, 2, 65535, "b by 2", 5, 131070);
    made("int a,int b", 4, Integer.MAX_VALUE, 4, 5, "a by 2", 5, 4294967294L);
    made("long a,int b", 5, Long.MAX_VALUE, 4, 5, "a by 3", 5, 3 * Long.MAX_VALUE);
    made("int a,int b", 4, 7, 4, 5, "a over 2", 5, 3);
    made("int a,int b", 4, -7, 4, 5, "a over 2", 5, -3);
    made("int a,int b", 4, -7, 4, 5, "a over 8", 5, 0);
    made("long a,int b", 5, Long.MIN_VALUE, 4, 5, "a over 1", 5, Long.MIN_VALUE);
    made("int a,short b", 4, 7, 3, -5, "a plus b", 5, 2);
    made("long a,byte b", 5, Long.MAX_VALUE, 1, 1, "a plus b", 5, Long.MIN_VALUE);
    made("int a,int b", 4, 7, 4, 5, "b plus b", 5, 10);
    made("int a,int b", 4, 7, 4, 5, "a plus b", 6, bits(12f));
    made("int a,int b", 4, 16777217, 4, 0, "a plus b", 6, bits(16777216f));
  }

  private static void madeOfReals() {
    made("float a,int b", 6, 24, 4, 5, "a by 3", 7, bits(4.5));
    made("float a,int b", 6, 24, 4, 5, "a over 7", 7, bits(1.5 / 7));
    made("double a,int b", 7, -24, 4, 5, "a over 999", 7, bits(-1.5 / 999));
    made("double a,int b", 7, -24, 4, 5, "a plus b", 7, bits(3.5));
    made("double a,long b", 7, -24, 5, Long.MAX_VALUE, "b plus a", 7, bits(1e15));
    made("double a,long b", 7, -24, 5, Long.MIN_VALUE, "b plus a", 7, bits(-1e15));
    made("float a,long b", 6, Long.MAX_VALUE, 5, 0, "a by 1", 7, bits(1e15));
    made("float a,long b", 6, Long.MIN_VALUE, 5, 0, "a over 1", 7, bits(-1e15));
    made("double a,long b", 7, 16000000000000000L, 5, 0, "a by 1", 7, bits(1e15));
    made("double a,long b", 7, 15999999999999984L, 5, 0, "a by 1", 7, bits(999999999999999.0));
    made("double a,long b", 7, Long.MAX_VALUE, 5, 0, "a", 7, bits(Long.MAX_VALUE / 16.0));
    made("float a,float b", 6, 1, 6, 2, "a plus b", 7, bits(0.1875));
  }

  private static void numbers() {
    made("int a,int b", 4, 7, 4, 5, "0", 4, 0);
    made("int a,int b", 4, 7, 4, 5, "999", 5, 999);
    made("int a,int b", 4, 7, 4, 5, "042", 7, bits(42.0));
    RecordBridge bridge = Checks.withBook("scheme s int a;scheme t byte b times 3,word w,char c;"
        + "cross s to t b from 300,w from 0,c from 999;");
    bridge.make(0);
    bridge.cross(0, 0);
    int[] due = {5, 0, 2, 3, 1, 0};
    for (int what = 0; what < 6; what++) {
      due("account " + what, bridge.account(what), due[what]);
    }
    due("each cell", bridge.cell(1, 0, 0, 0), 44);
    due("each cell", bridge.cell(1, 0, 0, 2), 44);
    due("word", bridge.cell(1, 1, 0, 0), word("a"));
    due("char", bridge.cell(1, 2, 0, 0), 999);
  }

  private static void crosses() {
    RecordBridge bridge = Checks.withBook("scheme s int a;scheme t int b,int c;cross s to t c from a;");
    bridge.make(0);
    bridge.write(0, 0, 0, 4, 5);
    bridge.write(1, 0, 0, 4, 6);
    bridge.write(1, 1, 1, 4, 6);
    due("no record", bridge.cross(0, 1), -1);
    due("no record", bridge.cross(0, -1), -1);
    due("no crossing", bridge.cross(1, 0), -1);
    due("no crossing", bridge.cross(-1, 0), -1);
    due("no account", bridge.account(0), -1);
    for (int i = 0; i < 8; i++) {
      due("cross", bridge.cross(0, 0), i);
    }
    due("not filled", bridge.cell(1, 0, 0, 0), 0);
    due("filled", bridge.cell(1, 1, 1, 0), 5);
    bridge.write(0, 0, 0, 4, 6);
    due("full", bridge.cross(0, 0), -1);
    due("refused", bridge.status(3), 5);
    due("acts", bridge.has(3), 13);
    due("the record stays", bridge.cell(0, 0, 0, 0), 6);
    due("would without room", bridge.would(0, 0, 0), 1);
    due("the account stays", bridge.account(0), 1);
    due("no record", bridge.would(0, 1, 0), -1);
    due("no record", bridge.would(0, -1, 0), -1);
    due("no crossing", bridge.would(1, 0, 0), -1);
    due("others", bridge.would(0, 0, 6), -1);
    due("others", bridge.would(0, 0, -1), -1);
    due("others", bridge.account(6), -1);
    due("others", bridge.account(-1), -1);
  }

  private static void accounts() {
    RecordBridge bridge = Checks.withBook("scheme s int a times 3,word w,float f times 2,bit o;"
        + "scheme t byte a times 2,word w times 4,double d times 3,bit o,int i times 2;"
        + "cross s to t a from a,d from f,o from w,i from a plus f;");
    bridge.make(0);
    bridge.write(0, 0, 0, 4, 5);
    bridge.write(0, 0, 1, 4, 500);
    bridge.write(0, 2, 1, 6, 8);
    int[] due = {7, 2, 2, 3, 2, 5};
    for (int what = 0; what < 6; what++) {
      due("would " + what, bridge.would(0, 0, what), due[what]);
      due("no account of it", bridge.account(what), -1);
    }
    due("nothing is done", bridge.has(5), 0);
    due("cross", bridge.cross(0, 0), 0);
    bridge.write(0, 0, 1, 4, 50);
    for (int what = 0; what < 6; what++) {
      due("account " + what, bridge.account(what), due[what]);
    }
    due("would now", bridge.would(0, 0, LOST), 2);
  }

  private static void cellsThatBothHave() {
    RecordBridge bridge = Checks.withBook("scheme s int a times 4,int b times 2,int c;"
        + "scheme t long x times 3,long y times 2,long z times 4;"
        + "cross s to t x from a,y from b plus a,z from b by 2;");
    bridge.make(0);
    for (int i = 0; i < 4; i++) {
      bridge.write(0, 0, i, 4, i + 1);
      bridge.write(0, 1, i % 2, 4, 10 * (i % 2) + 10);
    }
    due("cross", bridge.cross(0, 0), 0);
    long[][] due = {{1, 2, 3}, {11, 22}, {20, 40, 0, 0}};
    for (int field = 0; field < 3; field++) {
      for (int cell = 0; cell < due[field].length; cell++) {
        due("cell " + field + " " + cell, bridge.cell(1, field, 0, cell), due[field][cell]);
      }
    }
    due("carried", bridge.account(0), 7);
    due("not read", bridge.account(4), 2);
    due("not filled", bridge.account(5), 2);
    RecordBridge three = Checks.withBook("scheme s int a times 4,int b;scheme t long x times 3;"
        + "cross s to t x from a plus b;");
    three.make(0);
    due("cells of all three", three.would(0, 0, 0), 1);
    due("not read", three.would(0, 0, 4), 3);
    due("not filled", three.would(0, 0, 5), 2);
  }

  private static void rounds() {
    RecordBridge bridge = Checks.withBook("scheme s int a times 2,word w,int x;scheme t byte a times 2,word w;"
        + "scheme u int i;cross s to t a from a,w from w;cross t to s a from a,w from w;cross t to u i from w;");
    bridge.make(0);
    bridge.make(0);
    bridge.write(0, 0, 0, 4, 100);
    bridge.write(0, 0, 1, 4, 200);
    bridge.put(0, 1, 0, 8, 77);
    due("round", bridge.round(0, 1, 0), 0b10);
    bridge.write(0, 2, 0, 4, 1);
    due("round", bridge.round(0, 1, 0), 0b1010);
    bridge.put(0, 1, 1, 10, 0);
    due("nothing is an empty word", bridge.round(0, 1, 1), 0);
    due("no such record", bridge.round(0, 1, 2), NOTHING);
    due("no such record", bridge.round(0, 1, -1), NOTHING);
    due("not back", bridge.round(0, 0, 0), NOTHING);
    due("not back", bridge.round(0, 2, 0), NOTHING);
    due("no record there", bridge.round(1, 0, 0), NOTHING);
    due("no crossing", bridge.round(3, 1, 0), NOTHING);
    due("no crossing", bridge.round(0, 3, 0), NOTHING);
    due("no crossing", bridge.round(-1, 1, 0), NOTHING);
    due("no crossing", bridge.round(0, -1, 0), NOTHING);
    for (int i = 0; i < 8; i++) {
      bridge.make(1);
    }
    due("without room", bridge.round(0, 1, 0), 0b1010);
  }

  private static int provedOf(String first, String second, String there, String home) {
    return Checks.withBook("scheme s " + first + ";scheme t " + second + ";cross s to t " + there + ";cross t to s "
        + home + ";").proved(0, 1);
  }

  private static void proofs() {
    for (int kind = 0; kind < 9; kind++) {
      for (int to = 0; to < 9; to++) {
        String[] whole = {"0", "134567", "24567", "34567", "457", "5", "67", "7", "8"};
        int want = whole[kind].contains("" + to) ? 1 : 0;
        due("proved " + kind + " " + to, provedOf(KINDS[kind] + " a", KINDS[to] + " b", "b from a", "a from b"), want);
      }
    }
    String two = "int a times 2,word w,byte b";
    due("fewer cells", provedOf(two, "int a,word w times 4", "a from a,w from w", "a from a,w from w"), 2);
    due("more cells", provedOf(two, "long a times 3,word w", "a from a,w from w", "a from a,w from w"), 3);
    due("not alone", provedOf(two, "long a times 3", "a from a by 1", "a from a"), 0);
    due("not alone back", provedOf(two, "long a times 3", "a from a", "a from a over 1"), 0);
    due("another one back", provedOf(two, "long a times 2", "a from a", "b from a"), 0);
    due("the second of two", provedOf(two, "byte x,int y,int z", "x from b,y from b", "b from y"), 4);
    due("crossed over", provedOf("int a,int b", "int a,int b", "a from b,b from a", "a from b,b from a"), 3);
    due("crossed over", provedOf("int a,int b", "int a,int b", "a from b,b from a", "a from a,b from b"), 0);
    RecordBridge bridge = Checks.withBook("scheme s int a;scheme t int a;scheme u int a;"
        + "cross s to t a from a;cross t to u a from a;cross t to s a from a;");
    due("proved", bridge.proved(0, 2), 1);
    due("proved", bridge.proved(2, 0), 1);
    due("not back", bridge.proved(0, 1), -1);
    due("not back", bridge.proved(0, 0), -1);
    due("not back", bridge.proved(1, 2), -1);
    due("none", bridge.proved(3, 0), -1);
    due("none", bridge.proved(0, 3), -1);
    due("none", bridge.proved(-1, 0), -1);
    due("none", bridge.proved(0, -1), -1);
  }

  private static void wayIs(RecordBridge bridge, int from, int to, int... steps) {
    due("way " + from + " " + to, bridge.way(from, to, -1), steps.length == 0 ? -1 : steps.length);
    for (int k = 0; k < steps.length; k++) {
      due("step " + k, bridge.way(from, to, k), steps[k]);
    }
    due("no step", bridge.way(from, to, steps.length), -1);
    due("no step", bridge.way(from, to, -2), -1);
  }

  private static void ways() {
    String three = "scheme a int x;scheme b int x;scheme c int x;";
    RecordBridge bridge = Checks.withBook(three + "cross b to c x from x;cross a to b x from x;cross a to b x from 1;"
        + "cross b to c x from 1;");
    wayIs(bridge, 0, 2, 1, 0);
    wayIs(bridge, 0, 1, 1);
    wayIs(bridge, 1, 2, 0);
    wayIs(bridge, 2, 0);
    wayIs(bridge, 0, 0);
    wayIs(bridge, 0, 3);
    wayIs(bridge, 3, 0);
    wayIs(bridge, 0, -1);
    wayIs(bridge, -1, 0);
    RecordBridge direct = Checks.withBook(three + "cross a to b x from x;cross b to c x from x;cross b to a x from x;"
        + "cross a to c x from x;");
    wayIs(direct, 0, 2, 3);
    wayIs(direct, 1, 0, 2);
    wayIs(direct, 2, 1);
  }

  private static void waysOfOthers() {
    wayIs(new RecordBridge(), 0, 1);
    RecordBridge bridge = Checks.withBook("scheme a int x;scheme b int x;");
    wayIs(bridge, 0, 1);
    due("least", bridge.least(0, 0, 1, -1), -1);
    bridge.make(0);
    due("no way", bridge.least(0, 0, 1, -1), -1);
  }

  private static void leastIs(RecordBridge bridge, int from, int to, int lost, int... steps) {
    due("least " + from + " " + to, bridge.least(from, 0, to, -1), lost);
    for (int k = 0; k < steps.length; k++) {
      due("step " + k, bridge.least(from, 0, to, k), steps[k]);
    }
    due("no step", bridge.least(from, 0, to, steps.length), -1);
    due("no step", bridge.least(from, 0, to, -2), -1);
  }

  private static void leastWays() {
    String three = "scheme a int x;scheme b byte x;scheme c long x;";
    RecordBridge bridge = Checks.withBook(three + "cross a to b x from x;cross a to c x from x;cross c to b x from 5;"
        + "cross b to a x from x;");
    bridge.make(0);
    leastIs(bridge, 0, 1, 0, 0);
    bridge.write(0, 0, 0, 4, 300);
    leastIs(bridge, 0, 1, 0, 1, 2);
    leastIs(bridge, 0, 2, 0, 1);
    bridge.make(1);
    leastIs(bridge, 1, 2, 0, 3, 1);
    bridge.make(2);
    bridge.write(2, 0, 0, 5, 300);
    leastIs(bridge, 2, 0, 0, 2, 3);
    due("to itself", bridge.least(0, 0, 0, -1), -1);
    due("no scheme", bridge.least(0, 0, 3, -1), -1);
    due("no scheme", bridge.least(3, 0, 0, -1), -1);
    due("no record", bridge.least(0, 1, 1, -1), -1);
    due("no record", bridge.least(0, -1, 1, -1), -1);
    RecordBridge like = Checks.withBook(three + "cross a to b x from x;cross a to b x from x by 1;"
        + "cross b to a x from x;");
    like.make(0);
    like.write(0, 0, 0, 4, 300);
    leastIs(like, 0, 1, 1, 0);
    RecordBridge round = Checks.withBook("scheme a int x;scheme b byte y,byte z;scheme c long x;"
        + "cross a to b y from x,z from x;cross a to c x from 0;cross c to a x from x;");
    round.make(0);
    round.write(0, 0, 0, 4, 300);
    leastIs(round, 0, 1, 0, 1, 2, 0);
    RecordBridge last = Checks.withBook("scheme a int x;scheme b byte y,byte z;scheme c long x;"
        + "cross a to b y from x,z from x;cross b to a x from y;cross c to a x from 0;cross a to c x from 0;");
    last.make(0);
    last.write(0, 0, 0, 4, 300);
    leastIs(last, 0, 1, 0, 3, 2, 0);
    last.make(1);
    leastIs(last, 1, 2, 0, 1, 3);
  }

  private static void originsOfRecords() {
    RecordBridge bridge = Checks.withBook("scheme s int a,int b;scheme t byte a,word w;"
        + "cross s to t a from a;cross t to s a from a;");
    for (int i = 0; i < 8; i++) {
      bridge.make(0);
      bridge.write(0, 0, i, 4, 128 * i);
      bridge.write(0, 1, i, 4, i);
    }
    bridge.make(1);
    due("origins", bridge.origins(0, 0), 0b01010101);
    bridge.put(1, 1, 0, 10, 0);
    due("nothing is an empty word", bridge.origins(0, 0), 0b01010101);
    bridge.write(1, 0, 0, 1, -128);
    due("origins", bridge.origins(0, 0), 0b10101010);
    bridge.put(1, 1, 0, 8, 1);
    due("all values", bridge.origins(0, 0), 0);
    due("of the other one", bridge.origins(1, 0), 0);
    RecordBridge small = Checks.withBook("scheme s int a times 4;scheme t int a;cross s to t a from a;"
        + "cross t to s a from a;");
    small.make(1);
    small.make(0);
    for (int i = 0; i < 4; i++) {
      small.write(0, 0, i, 4, 7);
    }
    due("would", small.would(0, 0, 0), 1);
    due("what other records hold counts for nothing", small.cross(1, 0), 1);
    due("not filled", small.cell(0, 0, 1, 3), 0);
    due("origins", small.origins(1, 1), 1);
    due("origins", small.origins(1, 0), 0);
    due("no record", bridge.origins(0, 1), -1);
    due("no record", bridge.origins(0, -1), -1);
    due("no record", bridge.origins(1, 8), -1);
    due("no crossing", bridge.origins(2, 0), -1);
    due("no crossing", bridge.origins(-1, 0), -1);
  }

  private static void tellingIs(RecordBridge bridge, int field, int most) {
    due("tells the field", bridge.tells(0, 0), field);
    due("tells how many", bridge.tells(0, 1), most);
  }

  private static void telling() {
    RecordBridge bridge = Checks.withBook("scheme s bit o,int i times 2,word w;scheme t int i;");
    tellingIs(bridge, -1, -1);
    bridge.make(0);
    tellingIs(bridge, 0, 1);
    for (int i = 1; i < 4; i++) {
      bridge.make(0);
    }
    tellingIs(bridge, 0, 4);
    bridge.put(0, 2, 0, 10, 0);
    tellingIs(bridge, 0, 4);
    bridge.put(0, 2, 0, 8, 1);
    tellingIs(bridge, 2, 3);
    bridge.write(0, 0, 0, 0, 1);
    tellingIs(bridge, 0, 3);
    bridge.write(0, 1, 1, 4, 1);
    bridge.write(0, 1, 3, 4, 2);
    tellingIs(bridge, 1, 2);
    bridge.write(0, 0, 1, 0, 1);
    tellingIs(bridge, 0, 2);
    bridge.write(0, 1, 4, 4, 2);
    tellingIs(bridge, 1, 1);
    RecordBridge alike = Checks.withBook("scheme s bit o,int i times 4,bit p;");
    alike.chance(1);
    for (int i = 0; i < 7; i++) {
      alike.copy(0, 0);
    }
    tellingIs(alike, 0, 8);
    for (int i = 0; i < 8; i++) {
      alike.write(0, 1, 4 * i + 1, 4, i < 4 ? 1 : 2);
    }
    tellingIs(alike, 1, 4);
    for (int i = 0; i < 8; i++) {
      alike.write(0, 1, 4 * i + 3, 4, i % 2);
    }
    tellingIs(alike, 1, 2);
    due("others", bridge.tells(0, 2), -1);
    due("others", bridge.tells(0, -1), -1);
    due("no records", bridge.tells(1, 0), -1);
    due("no scheme", bridge.tells(2, 0), -1);
    due("no scheme", bridge.tells(-1, 0), -1);
  }

  private static void idleFields() {
    RecordBridge bridge = Checks.withBook("scheme s int a,int b,int c,int d;scheme t int a,int b;scheme u int a;"
        + "cross s to t a from b plus d,b from 7;cross s to t a from b;cross t to s c from a;");
    int[][] due = {{0b1011, 0b0101}, {0, 0b10}, {1, 1}};
    for (int scheme = 0; scheme < 3; scheme++) {
      due("none leads to", bridge.idle(scheme, 0), due[scheme][0]);
      due("none reads", bridge.idle(scheme, 1), due[scheme][1]);
    }
    due("others", bridge.idle(0, 2), -1);
    due("others", bridge.idle(0, -1), -1);
    due("no scheme", bridge.idle(3, 0), -1);
    due("no scheme", bridge.idle(-1, 0), -1);
  }
}
