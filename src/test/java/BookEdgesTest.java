/** Term I and promises 1 to 12: each sentence that names a boundary case, and what it asks there. */
public final class BookEdgesTest {
  private static final Checks CHECKS = new Checks();
  private static final String[] KINDS = {"bit", "byte", "char", "short", "int", "long", "float", "double", "word"};
  private static final String[] OWN_WORDS = {"scheme", "times", "cross", "to", "from", "by", "over", "plus", "bit",
      "byte", "char", "short", "int", "long", "float", "double", "word"};
  private static final String TWO = "scheme a bit o,int i,word w,float r;scheme b bit y,int z,word w;";
  private static final String CROSS = TWO + "cross a to b ";
  private static final String THREE = "scheme a int x;scheme b int x;scheme c int x;";
  private static final String FOUR_CROSSINGS = THREE + "cross a to b x from x;cross b to c x from x;"
      + "cross c to a x from x;cross a to b x from 1;";
  private static final String SIX = "scheme a int a,int b,int c,int d,int e,int f";
  private static final String SIX_RULES =
      SIX + ";scheme b int x;cross b to a a from 1,b from 2,c from 3,d from 4,e from 5,f from 6";
  /** Texts behind each of which a name is asked. */
  private static final String[] NAME_ASKED = {"scheme ", "scheme a int ", TWO + "cross ", TWO + "cross a to ", CROSS,
      CROSS + "z from ", CROSS + "z from i plus "};
  /** Texts behind each of which a number is asked. */
  private static final String[] NUMBER_ASKED =
      {"scheme a int x times ", CROSS + "z from i by ", CROSS + "z from i over ", CROSS + "z from "};

  public static void main(String[] args) {
    statements();
    schemes();
    crossings();
    sources();
    kinds();
    names();
    numbersAndBlanks();
    firstFaults();
    textFaults();
    numberFaults();
    nameFaults();
    fieldFaults();
    tooManyFaults();
    constants();
    newObject();
    feeds();
    ends();
    cutTapes();
    books();
    booksAnew();
    booksInTurn();
    faultAnswers();
    counts();
    letters();
    named();
    fields();
    crossingAnswers();
    ruleAnswers();
    widening();
    CHECKS.close("BookEdgesTest");
  }

  private static void sentence(String words) {
    CHECKS.sentence(words);
  }

  private static void due(String what, long got, long want) {
    CHECKS.due(what, got, want);
  }

  private static void due(String what, boolean got, boolean want) {
    CHECKS.due(what, got, want);
  }

  private static void fault(String text, int sort, int place) {
    RecordBridge bridge = new RecordBridge();
    due("book() of " + text, Checks.book(bridge, text), -1);
    due("fault of " + text, bridge.fault(0), sort);
    due("place of the fault of " + text, bridge.fault(1), place);
  }

  /** The fault at the place at which the second text begins. */
  private static void faultAt(String text, String rest, int sort) {
    fault(text + rest, sort, text.length());
  }

  private static RecordBridge good(String text, int statements) {
    RecordBridge bridge = new RecordBridge();
    due("book() of " + text, Checks.book(bridge, text), statements);
    due("fault of " + text, bridge.fault(0), 0);
    return bridge;
  }

  // ---- term I: the text

  private static void statements() {
    sentence("A BOOK is a text: { STATEMENT ; }");
    good("scheme a int x;", 1);
    good("scheme a int x;scheme b int x;", 2);
    good(CROSS + "z from i;", 3);
    faultAt("scheme a int x", "", 1);
    faultAt("scheme a int x;scheme b int x", "", 1);
    faultAt(CROSS + "z from i", "", 1);
    faultAt("", ";", 1);
    faultAt("scheme a int x;", ";", 1);
    faultAt("scheme a int x ", "scheme b int x;", 1);
    sentence("1 to 3 SCHEMES, the first STATEMENTS");
    due("one", good("scheme a int x;", 1).has(0), 1);
    due("three", good(THREE, 3).has(0), 3);
    faultAt("", "cross a to b x from x;", 1);
    faultAt("\n ", "cross a to b x from x;", 1);
    faultAt(THREE, "scheme d int x;", 5);
    faultAt(CROSS + "z from i;", "scheme c int x;", 5);
  }

  private static void schemes() {
    sentence("scheme NAME FIELD { , FIELD }");
    good("scheme a int x,int y;", 1);
    faultAt("scheme ", ";", 1);
    faultAt("scheme a", ";", 1);
    faultAt("scheme a ", ",int x;", 1);
    faultAt("scheme a int x,", ";", 1);
    faultAt("scheme a int x,", ",int y;", 1);
    faultAt("scheme a int x ", "int y;", 1);
    sentence("FIELD: KIND NAME [ times N ] (1 to 6 of a SCHEME");
    due("one field", good("scheme a int x;", 1).has(7), 1);
    due("six fields", good(SIX + ";", 1).has(7), 6);
    faultAt("scheme a ", "x int;", 1);
    faultAt("scheme a int", ";", 1);
    faultAt("scheme a int x times", ";", 1);
    faultAt(SIX + ",", "int g;", 5);
    sentence("N 1 .. 4, 1 without: so many CELLS of a RECORD");
    due("without", good("scheme a int x;", 1).field(0, 0, 1), 1);
    for (int n = 1; n <= 4; n++) {
      RecordBridge bridge = good("scheme a bit o,int x times " + n + ",int y;", 1);
      due("cells of " + n, bridge.field(0, 1, 1), n);
      due("cells of the next field", bridge.field(0, 2, 1), 1);
      due("places of " + n, bridge.length(0, 1), 8 * n);
    }
    faultAt("scheme a int x times ", "0;", 2);
    faultAt("scheme a int x times ", "5;", 2);
    faultAt("scheme a int x times ", "10;", 2);
  }

  private static void crossings() {
    sentence("cross NAME to NAME RULE { , RULE }");
    good(CROSS + "z from i,w from w;", 3);
    faultAt(CROSS, ";", 1);
    faultAt(CROSS, ",z from i;", 1);
    faultAt(CROSS + "z from i,", ";", 1);
    faultAt(CROSS + "z from i ", "w from w;", 1);
    sentence("two unlike SCHEMES; 4 CROSSINGS at most");
    faultAt(TWO + "cross a to ", "a y from o;", 3);
    faultAt(TWO + "cross b to ", "b y from y;", 3);
    due("none", good(TWO, 2).has(1), 0);
    due("four", good(FOUR_CROSSINGS, 7).has(1), 4);
    faultAt(FOUR_CROSSINGS, "cross a to b x from x;", 5);
    sentence("RULE: NAME from SOURCE (a FIELD of the second; 1 to 6 RULES, each another FIELD)");
    faultAt(CROSS, "o from o;", 3);
    due("one rule", good(CROSS + "z from i;", 3).crossing(0, 2), 1);
    due("six rules", good(SIX_RULES + ";", 3).crossing(0, 2), 6);
    faultAt(SIX_RULES + ",", "a from 7;", 5);
    faultAt(CROSS + "z from i,", "z from i;", 3);
    faultAt(CROSS + "z from i,w from w,", "w from w;", 3);
    faultAt(CROSS + "z ", "i;", 1);
    faultAt(CROSS + "z from", ";", 1);
  }

  private static void sources() {
    for (int kind = 0; kind < 9; kind++) {
      boolean isNumber = kind >= 1 && kind <= 7;
      String fields = "scheme a " + KINDS[kind] + " k,int i;scheme b " + KINDS[kind] + " k;cross a to b k from ";
      sentence("SOURCE: NAME [ by N | over N | plus NAME ] (FIELDS of the first, by, over, plus of number kinds alone");
      good(fields + "k;", 3);
      String[] behind = {"by 2;", "over 2;", "plus i;"};
      for (String rest : behind) {
        if (isNumber) {
          good(fields + "k " + rest, 3);
        } else {
          faultAt(fields + "k ", rest, 4);
        }
      }
      if (isNumber) {
        good(fields + "i plus k;", 3);
      } else {
        faultAt(fields + "i plus ", "k;", 4);
      }
      sentence("N (0 .. 999; to a FIELD of a number kind or word)");
      for (String number : new String[] {"0", "1", "99", "999"}) {
        if (kind == 0) {
          faultAt(fields, number + ";", 4);
        } else {
          due("number " + number, good(fields + number + ";", 3).rule(0, 0, 3), Integer.parseInt(number));
        }
      }
      faultAt(fields + "100", "0;", 1);
    }
    sentence("FIELDS of the first");
    faultAt(CROSS + "z from ", "z;", 3);
    faultAt(CROSS + "z from i plus ", "z;", 3);
    sentence("N 1 .. 999");
    for (String word : new String[] {"by ", "over "}) {
      due("1", good(CROSS + "z from i " + word + "1;", 3).rule(0, 0, 3), 1);
      due("999", good(CROSS + "z from i " + word + "999;", 3).rule(0, 0, 3), 999);
      faultAt(CROSS + "z from i " + word, "0;", 2);
      faultAt(CROSS + "z from i " + word + "100", "0;", 1);
    }
  }

  private static void kinds() {
    sentence("KINDS: 0 bit, 1 byte, 2 char, 3 short, 4 int, 5 long, 6 float, 7 double, 8 word");
    for (int kind = 0; kind < 9; kind++) {
      due(KINDS[kind], good("scheme a " + KINDS[kind] + " x;", 1).field(0, 0, 0), kind);
      faultAt("scheme a ", KINDS[kind] + "s x;", 1);
      faultAt("scheme a ", KINDS[kind].substring(1) + " x;", 1);
      faultAt("scheme a ", KINDS[kind].substring(0, KINDS[kind].length() - 1) + " x;", 1);
    }
    faultAt("scheme a ", "scheme x;", 1);
    faultAt("scheme a ", "Int x;", 1);
    sentence("number kinds are 1 .. 7");
    for (int kind = 0; kind < 9; kind++) {
      RecordBridge bridge = new RecordBridge();
      int statements = Checks.book(bridge, "scheme a " + KINDS[kind] + " x;scheme b int x;cross a to b x from x by 2;");
      due(KINDS[kind], statements, kind == 0 || kind == 8 ? -1 : 3);
    }
  }

  private static void names() {
    sentence("NAMES: 1 to 6 letters");
    RecordBridge bridge = good("scheme azazaz int z;", 1);
    due("the sixth letter", bridge.letter(0, -1, 5), 26);
    due("the second letter of one", bridge.letter(0, 0, 1), 0);
    for (String ahead : NAME_ASKED) {
      faultAt(ahead, "", 1);
      faultAt(ahead, ";", 1);
      faultAt(ahead + "azazaz", "a;", 1);
      for (char sign : new char[] {'`', '{', 'A', 'Z', '@', '_', '\'', (char) 225, (char) 0}) {
        faultAt(ahead, sign + ";", 1);
        if (ahead.length() < 20) {
          faultAt(ahead + "a", sign + ";", 1);
        }
      }
    }
    sentence("no OWN WORD");
    for (String ahead : NAME_ASKED) {
      for (String own : OWN_WORDS) {
        faultAt(ahead, own + " ", 1);
      }
    }
    sentence("OWN WORDS: scheme, times, cross, to, from, by, over, plus, and the KINDS");
    for (String own : OWN_WORDS) {
      String longer = own.length() < 6 ? own + "x" : own.substring(0, 5);
      good("scheme " + longer + " int " + longer + ";", 1);
      good("scheme " + own.substring(1) + " int " + own.substring(1) + ";", 1);
    }
    for (String no : new String[] {"number", "row", "cell", "record", "and", "minus", "is", "none", "bits", "end"}) {
      good("scheme " + no + " int " + no + ";", 1);
    }
    sentence("SCHEMES all unlike, FIELDS unlike in a SCHEME");
    faultAt("scheme ab int x;scheme ", "ab int x;", 3);
    faultAt(THREE.substring(0, 30) + "scheme ", "b int x;", 3);
    faultAt("scheme a int ab,bit ", "ab;", 3);
    faultAt(SIX.substring(0, SIX.length() - 1), "a;", 3);
    good("scheme abcdef int abcdef,int abcdeg,int abcde,int bcdef;scheme abcdeg int abcdef;scheme a int a;", 3);
  }

  private static void numbersAndBlanks() {
    sentence("NUMBERS: 1 to 3 digits");
    for (String ahead : NUMBER_ASKED) {
      good(ahead + "3;", ahead.length() < 30 ? 1 : 3);
      good(ahead + "03;", ahead.length() < 30 ? 1 : 3);
      good(ahead + "003;", ahead.length() < 30 ? 1 : 3);
      faultAt(ahead + "000", "3;", 1);
      faultAt(ahead, ";", 1);
      faultAt(ahead, "-1;", 1);
      faultAt(ahead, "/;", 1);
      faultAt(ahead, ":;", 1);
    }
    due("digits of base ten", good("scheme a int x;scheme b int x;cross a to b x from 019;", 3).rule(0, 0, 3), 19);
    sentence("Blanks (10, 32) are where one likes");
    good("scheme a int x times 2,int y;scheme b int x;cross a to b x from x by 2;cross b to a x from 7,y from x;", 4);
    good(" scheme  a\nint \n x\n\n times   2 , int\ny ; scheme\nb int x ;\ncross a  to\n\nb x from x by  2 ; "
        + "cross b\nto a x\nfrom 7 , y from x \n;\n \n", 4);
    for (char sign : new char[] {9, 13, 11, 12, 0, 31, 33, 160}) {
      faultAt("scheme a", sign + "int x;", 1);
      faultAt("scheme a int x;", sign + "", 1);
    }
    sentence("words and numbers side by side need one");
    faultAt("scheme a int x times", "3;", 1);
    faultAt(CROSS + "z from i by", "3;", 1);
    faultAt(CROSS + "z from i over", "3;", 1);
    faultAt(CROSS + "z from", "3;", 1);
    faultAt("scheme a ", "intx;", 1);
    faultAt("scheme a int x", "2;", 1);
    faultAt("scheme a int x times 2", "y;", 1);
    faultAt("", "schemea int x;", 1);
    good("scheme a int x times\n3;", 1);
  }

  // ---- term I: the faults

  private static void firstFaults() {
    sentence("FAULTS, the first along the text");
    faultAt("scheme a int x,int ", "x times 9!", 3);
    faultAt("scheme a int x times ", "9,int x!", 2);
    faultAt("scheme a int x", "!,int x times 9;", 1);
    faultAt(CROSS + "z from w ", "by 0,z from q;", 4);
    faultAt(CROSS + "z from i by ", "0,z from w by 1;", 2);
    faultAt(THREE, "scheme scheme scheme", 5);
    faultAt(TWO + "cross ", "c to c c from c;", 3);
  }

  private static void textFaults() {
    sentence("1 the first byte with which no such text goes on");
    String book = "scheme a bit o,int i times 2;scheme b bit y,int z;cross a to b z from i,y from o;"
        + "cross a to b z from i by 2;cross b to a i from z plus z;cross a to b z from 5;";
    for (int i = 0; i <= book.length(); i++) {
      boolean insideWord = i > 0 && Character.isLetterOrDigit(book.charAt(i - 1))
          && i < book.length() && Character.isLetterOrDigit(book.charAt(i));
      if (!insideWord) {
        faultAt(book.substring(0, i), "!" + book.substring(i), 1);
        faultAt(book.substring(0, i), (char) 255 + book.substring(i), 1);
      }
    }
    sentence("words and numbers whole, at their first byte");
    faultAt("", "schem", 1);
    faultAt("", "schemes a int x;", 1);
    faultAt("scheme a int x ", "time 2;", 1);
    faultAt("scheme a int x ", "timess 2;", 1);
    faultAt("scheme a int x ", "12;", 1);
    faultAt("scheme a int x ", "1234;", 1);
    faultAt("scheme ", "1234;", 1);
    faultAt(TWO + "cross a ", "too b y from o;", 1);
    faultAt(TWO + "cross a ", "t", 1);
    faultAt(CROSS + "z ", "fro i;", 1);
    faultAt(CROSS + "z from i ", "bye 2;", 1);
    faultAt(CROSS + "z from i ", "ove", 1);
    faultAt(CROSS + "z from i ", "abcdefghij", 1);
    sentence("where a NAME is asked, an OWN WORD so");
    for (String ahead : NAME_ASKED) {
      faultAt(ahead, "times 3;", 1);
      faultAt(ahead, "double", 1);
    }
    sentence("a 7th letter at itself");
    for (String ahead : NAME_ASKED) {
      faultAt(ahead + "aaaaaa", "a", 1);
      faultAt(ahead + "scheme", "s a int x;", 1);
      faultAt(ahead + "zzzzzz", "zzzzzzz;", 1);
    }
    sentence("a 4th digit at itself");
    for (String ahead : NUMBER_ASKED) {
      faultAt(ahead + "000", "0", 1);
      faultAt(ahead + "001", "0;", 1);
      faultAt(ahead + "999", "99;", 1);
    }
    faultAt(CROSS + "y from 000", "0;", 1);
    sentence("at the text's length, if it ends too soon");
    for (int i = 0; i < book.length(); i++) {
      char last = i == 0 ? ';' : book.charAt(i - 1);
      if (last == ' ' || last == ',') {
        fault(book.substring(0, i), 1, i);
        fault(book.substring(0, i) + "\n  ", 1, i + 3);
      }
    }
    fault("scheme abcdef", 1, 13);
    fault("scheme a int x times 4", 1, 22);
    fault(CROSS + "z from 999", 1, CROSS.length() + 10);
  }

  private static void numberFaults() {
    sentence("2 a number that can't be, at it");
    for (String no : new String[] {"0", "00", "000", "5", "05", "999"}) {
      faultAt("scheme a int x times ", no + ";", 2);
      faultAt("scheme a int x times \n ", no, 2);
    }
    for (String no : new String[] {"0", "00", "000"}) {
      faultAt(CROSS + "z from i by ", no + ";", 2);
      faultAt(CROSS + "z from r over ", no, 2);
    }
  }

  private static void nameFaults() {
    sentence("3 a NAME to be given that is there already");
    faultAt("scheme abc int x;scheme ", "abc", 3);
    faultAt("scheme abc int x,bit y,word ", "x times 3;", 3);
    faultAt("scheme abc int x,bit y,word ", "y;", 3);
    good("scheme abc int abc,int b;scheme b int abc;", 2);
    sentence("one that is none of what is asked");
    faultAt(TWO + "cross ", "c to b y from o;", 3);
    faultAt(TWO + "cross ", "o to b y from o;", 3);
    faultAt(TWO + "cross a to ", "y y from o;", 3);
    faultAt(CROSS, "i from i;", 3);
    faultAt(CROSS, "a from i;", 3);
    faultAt(CROSS + "z from ", "y by 2;", 3);
    faultAt(CROSS + "z from i plus ", "zz;", 3);
    faultAt(CROSS + "z from ", "ii;", 3);
    sentence("a FIELD that a RULE has already");
    faultAt(CROSS + "z from i,y from o,", "z from 5;", 3);
    faultAt(CROSS + "z from 5,", "z", 3);
    good(CROSS + "z from i;cross a to b z from i;", 4);
    good(CROSS + "z from i,y from i,w from i;", 3);
    sentence("the same SCHEME again, at it");
    faultAt(TWO + "cross a to ", "a o from o;", 3);
    faultAt(TWO + "cross b to \n", "b y from y;", 3);
  }

  private static void fieldFaults() {
    sentence("4 by, over, plus behind a FIELD of bit or word, at that word");
    for (String field : new String[] {"o", "w"}) {
      faultAt(CROSS + "z from " + field + " ", "by 2;", 4);
      faultAt(CROSS + "z from " + field + " ", "over 0;", 4);
      faultAt(CROSS + "z from " + field + "\n", "plus i;", 4);
      faultAt(CROSS + "z from " + field + " ", "plus", 4);
    }
    sentence("a FIELD of these behind plus, at it");
    faultAt(CROSS + "z from i plus ", "o;", 4);
    faultAt(CROSS + "z from r plus ", "w", 4);
    sentence("a number for a bit, at it");
    faultAt(CROSS + "y from ", "0;", 4);
    faultAt(CROSS + "y from ", "1;", 4);
    faultAt(CROSS + "z from 1,y from ", "999", 4);
    good(CROSS + "z from 0,w from 0;", 3);
  }

  private static void tooManyFaults() {
    sentence("5 one too many, at its first byte: a 4th scheme");
    faultAt(THREE, "scheme", 5);
    faultAt(THREE + "\n ", "scheme a int x;", 5);
    faultAt(FOUR_CROSSINGS, "scheme", 5);
    sentence("a 5th cross");
    faultAt(FOUR_CROSSINGS, "cross", 5);
    faultAt(FOUR_CROSSINGS + " ", "cross q to q", 5);
    faultAt(FOUR_CROSSINGS, "crosses", 1);
    sentence("a scheme behind a cross");
    faultAt("scheme a int x;scheme b int x;cross a to b x from x;", "scheme", 5);
    faultAt("scheme a int x;scheme b int x;cross a to b x from x;", "scheme c int x;", 5);
    sentence("a 7th FIELD, RULE (whatever stands there, if anything does)");
    for (String rest : new String[] {"int g;", "g", "int", ";", ",", "7", "!", "abcdefgh", "int a;", "scheme"}) {
      faultAt(SIX + ",", rest, 5);
      faultAt(SIX + " , \n", rest, 5);
      faultAt(SIX_RULES + ",", rest, 5);
      faultAt(SIX_RULES + " , \n", rest, 5);
    }
    faultAt(SIX + ",", "", 1);
    faultAt(SIX + ", \n", "", 1);
    faultAt(SIX_RULES + ",", "", 1);
    faultAt(SIX_RULES + ", \n", "", 1);
    faultAt(SIX.substring(0, SIX.length() - 6) + ",", ";", 1);
  }

  // ---- promises 1 to 12

  private static void constants() {
    sentence("There is none; it is refused.");
    due("NONE", RecordBridge.NONE, -1);
    sentence("There is no such number.");
    due("NOTHING", RecordBridge.NOTHING, Long.MIN_VALUE / 2);
  }

  private static void newObject() {
    sentence("No book.");
    RecordBridge bridge = new RecordBridge();
    due("schemes", bridge.has(0), 0);
    due("a scheme", bridge.letter(0, -1, 0), -1);
    due("a field", bridge.field(0, 0, 0), -1);
    due("a crossing", bridge.crossing(0, 0), -1);
    due("a rule", bridge.rule(0, 0, 0), -1);
    due("a row", bridge.length(0, 0), -4);
    due("things", bridge.length(0, 8), -4);
    due("chance", bridge.chance(1), -1);
    due("way", bridge.way(0, 1, -1), -1);
    due("idle", bridge.idle(0, 0), -1);
    due("the tape", bridge.end(1), false);
  }

  private static int feedBlanks(RecordBridge bridge) {
    return bridge.feed(0x20202020, 0x20202020, 0x20202020, 0x20202020, 0x20202020);
  }

  private static void feeds() {
    sentence("Twenty bytes come behind those on the tape, of each number the highest first: how many there are");
    RecordBridge bridge = new RecordBridge();
    due("feed", bridge.feed(0x73636865, 0x6d652061, 0x20696e74, 0x20782c69, 0x6e742079), 20);
    due("feed", bridge.feed(0x3b202020, 0x20202020, 0x20202020, 0x20202020, 0x20202020), 40);
    due("scheme a int x,int y;", bridge.book(), 1);
    due("its fields", bridge.has(7), 2);
    due("feed", bridge.feed(0x73636865, 0x6d652061, 0x20696e74, 0x20783b80, 0xff000000), 20);
    due("a byte above 127", bridge.book(), -1);
    due("its place", bridge.fault(1), 15);
    sentence("NONE, refused (0), if there would be more than 1600.");
    for (int i = 1; i <= 80; i++) {
      due("feed", feedBlanks(bridge), 20 * i);
    }
    due("not refused", bridge.status(0), 0);
    due("one too many", feedBlanks(bridge), -1);
    due("refused", bridge.status(0), 1);
    due("1600 are there", bridge.end(1600), true);
    due("1581 are there", bridge.end(1581), true);
    due("1601", feedBlanks(bridge), -1);
    due("refused", bridge.status(0), 2);
    due("nothing came", bridge.end(1582), false);
    due("1580 are there", bridge.end(1580), true);
    due("up to 1600", feedBlanks(bridge), 1600);
    due("book() of 1600 blanks", bridge.book(), -1);
    due("its place", bridge.fault(1), 1600);
  }

  private static void ends() {
    sentence("The tape has its first n bytes alone: true; false, refused (0), if it has not so many, or n is below 0.");
    RecordBridge bridge = new RecordBridge();
    due("0 of none", bridge.end(0), true);
    due("1 of none", bridge.end(1), false);
    due("refused", bridge.status(0), 1);
    Checks.feed(bridge, "scheme a int x;scheme b int y;");
    due("one too many", bridge.end(31), false);
    due("far too many", bridge.end(Integer.MAX_VALUE), false);
    due("below 0", bridge.end(-1), false);
    due("far below 0", bridge.end(Integer.MIN_VALUE), false);
    due("refused", bridge.status(0), 5);
    due("all", bridge.end(30), true);
    due("the first ones", bridge.end(15), true);
    due("not so many any more", bridge.end(16), false);
    due("refused", bridge.status(0), 6);
    due("the first ones are a book", bridge.book(), 1);
    Checks.feed(bridge, "scheme c int x;");
    due("none", bridge.end(0), true);
    Checks.feed(bridge, "scheme d int x;");
    due("only what came behind", bridge.book(), 1);
    due("its name", bridge.letter(0, -1, 0), 4);
  }

  /** What stood on the tape behind its end counts for nothing. */
  private static void cutTapes() {
    sentence("The tape has its first n bytes alone");
    String[] texts = {"scheme abcdefg int x times 1,word zzz;", CROSS + "z from i by 1111;", "scheme a bit b , bit "
        + "c ;"};
    for (String text : texts) {
      for (int length = 0; length < text.length(); length++) {
        RecordBridge cut = new RecordBridge();
        Checks.feed(cut, text);
        due("end", cut.end(length), true);
        RecordBridge whole = new RecordBridge();
        Checks.feed(whole, text.substring(0, length));
        due("book() of " + length, cut.book(), whole.book());
        due("its fault", cut.fault(0), whole.fault(0));
        due("its place", cut.fault(1), whole.fault(1));
      }
    }
    RecordBridge bridge = new RecordBridge();
    Checks.feed(bridge, "scheme a int xyz;");
    bridge.end(14);
    due("a name cut short", bridge.book(), -1);
    due("its place", bridge.fault(1), 14);
    Checks.feed(bridge, "scheme a int x times 11;");
    bridge.end(22);
    due("a number cut short", bridge.book(), -1);
    due("its place", bridge.fault(1), 22);
    Checks.book(bridge, "scheme a int x;scheme ab int x;");
    Checks.feed(bridge, "ab");
    bridge.end(1);
    due("named, cut short", bridge.named(-1), 0);
  }

  private static void books() {
    sentence("The tape (it goes) is THE BOOK: how many STATEMENTS");
    RecordBridge bridge = new RecordBridge();
    due("one", Checks.book(bridge, "scheme a int x;"), 1);
    due("the tape goes", bridge.end(1), false);
    due("seven", Checks.book(bridge, FOUR_CROSSINGS), 7);
    due("the tape goes", bridge.end(1), false);
    due("no book", Checks.book(bridge, "scheme a int x"), -1);
    due("the tape goes", bridge.end(1), false);
    sentence("NONE, refused (1), with a FAULT (all stays");
    due("refused", bridge.status(1), 1);
    bridge = Checks.withBook(CROSS + "z from i;");
    bridge.make(0);
    bridge.write(0, 1, 0, 4, 77);
    bridge.put(0, 8, 1, 9, 5);
    bridge.cross(0, 0);
    bridge.read(0, 8, 0, 4);
    for (String no : new String[] {"", "scheme c int y;scheme c int y;", CROSS + "z from i by 0;", "scheme c int y"}) {
      due("no book: " + no, Checks.book(bridge, no), -1);
      due("schemes stay", bridge.has(0), 2);
      due("crossings stay", bridge.has(1), 1);
      due("records stay", bridge.has(2), 2);
      due("acts stay", bridge.has(3), 4);
      due("names stay", bridge.letter(1, -1, 0), 2);
      due("fields stay", bridge.has(7), 4);
      due("rules stay", bridge.rule(0, 0, 2), 1);
      due("cells stay", bridge.cell(1, 1, 0, 0), 77);
      due("things stay", bridge.get(0, 8, 1, 1), 5);
      due("the account stays", bridge.account(0), 1);
      due("ways stay", bridge.way(0, 1, 0), 0);
    }
    due("refused", bridge.status(1), 4);
    due("acts can be undone", bridge.undo(), true);
    due("the crossing is undone", bridge.has(5), 0);
    sentence("one without a STATEMENT has FAULT 1 at its length");
    fault("", 1, 0);
    fault(" ", 1, 1);
    fault("\n\n \n", 1, 4);
  }

  private static void booksAnew() {
    sentence("Without one there are no RECORDS, THINGS are as at first, no ACCOUNT, nothing can be undone; the seed "
        + "stays.");
    RecordBridge bridge = Checks.withBook(CROSS + "z from i;");
    bridge.seed(4711);
    for (int i = 0; i < 4; i++) {
      bridge.put(0, 8, i, 9, 5 + i);
    }
    bridge.make(0);
    bridge.write(0, 1, 0, 4, 77);
    bridge.write(1, 1, 7, 4, 78);
    bridge.put(1, 2, 7, 10, 0);
    bridge.cross(0, 0);
    due("again", Checks.book(bridge, CROSS + "z from i;"), 3);
    for (int what = 2; what < 7; what++) {
      due("has " + what, bridge.has(what), what == 6 ? -1 : 0);
    }
    int[] kinds = {4, 8, 10, 0};
    long[] numbers = {7, 34, 0, 1};
    for (int place = 0; place < 4; place++) {
      due("thing " + place, bridge.get(0, 8, place, 0), kinds[place]);
      due("its number", bridge.get(0, 8, place, 1), numbers[place]);
    }
    due("a place", bridge.get(0, 1, 0, 1), 0);
    due("a place without a record", bridge.get(1, 1, 7, 1), 0);
    due("a word", bridge.get(1, 2, 7, 0), 8);
    for (int what = 0; what < 6; what++) {
      due("account " + what, bridge.account(what), -1);
    }
    due("undo", bridge.undo(), false);
    RecordBridge other = Checks.withBook("scheme s long l;");
    other.seed(4711);
    other.chance(1);
    due("by the seed", Checks.book(bridge, "scheme s long l;"), 1);
    bridge.chance(1);
    due("the seed stays", bridge.cell(0, 0, 0, 0), other.cell(0, 0, 0, 0));
  }

  /** One object with books in turn answers as a new one with the last of them does. */
  private static void booksInTurn() {
    sentence("The tape (it goes) is THE BOOK");
    String most = "scheme a int a times 4,long b times 4,char c times 4,byte d times 4,double e times 4,word f "
        + "times 4;";
    String six = most + most.replace("scheme a", "scheme b")
        + "cross a to b a from a,b from b by 2,c from c,d from d plus a,e from e,f from f;"
        + "cross b to a f from a,e from b,d from 5,c from c,b from d over 3,a from f;cross a to b d from b;";
    String[] books = {six, "scheme s bit o;scheme t bit o;cross s to t o from o;", TWO, THREE, FOUR_CROSSINGS,
        CROSS + "y from o;"};
    String[] faults = {"", six + "cross", "scheme a int x,", CROSS + "y from o,z from i plus", six + "!", THREE + "x"};
    for (int i = 0; i < 36; i++) {
      RecordBridge bridge = new RecordBridge();
      Checks.book(bridge, books[i % 6]);
      bridge.chance(20);
      Checks.book(bridge, faults[i * 5 % 6]);
      Checks.book(bridge, books[i / 6]);
      Checks.book(bridge, faults[i % 6]);
      due("the book, turn " + i, Checks.book(bridge, books[i % 6]) > 0, true);
      alike(i, bridge, Checks.withBook(books[i % 6]));
    }
  }

  private static void alike(int turn, RecordBridge one, RecordBridge other) {
    one.seed(5);
    other.seed(5);
    due("turn " + turn + ", chance", one.chance(9), other.chance(9));
    for (int scheme = 0; scheme < 3; scheme++) {
      for (int field = 0; field < 6; field++) {
        String at = "turn " + turn + ", field " + scheme + " " + field;
        due(at, one.letter(scheme, field, 0), other.letter(scheme, field, 0));
        due(at, one.length(scheme, field), other.length(scheme, field));
        due(at, one.field(scheme, field, 0), other.field(scheme, field, 0));
        for (int cell = 0; cell < 4; cell++) {
          due(at + ", cell " + cell, one.cell(scheme, field, 1, cell), other.cell(scheme, field, 1, cell));
        }
      }
      due("turn " + turn + ", unlike", one.unlike(scheme, 0, 1), other.unlike(scheme, 0, 1));
    }
    for (int crossing = 0; crossing < 4; crossing++) {
      for (int i = 0; i < 30; i++) {
        String at = "turn " + turn + ", crossing " + crossing + " " + i;
        due(at, one.rule(crossing, i / 5, i % 5), other.rule(crossing, i / 5, i % 5));
        if (i < 6) {
          due(at, one.crossing(crossing, i), other.crossing(crossing, i));
          due(at, one.would(crossing, 0, i), other.would(crossing, 0, i));
        }
      }
    }
  }

  private static void faultAnswers() {
    sentence("Of the latest book(): its FAULT (what 0; 0 without, and ahead of any), its place (1; NONE without). "
        + "NONE for another what.");
    RecordBridge bridge = new RecordBridge();
    due("ahead of any", bridge.fault(0), 0);
    due("its place", bridge.fault(1), -1);
    Checks.book(bridge, "scheme a int x,int x;");
    due("a fault", bridge.fault(0), 3);
    due("its place", bridge.fault(1), 19);
    Checks.book(bridge, "!");
    due("the latest one", bridge.fault(0), 1);
    due("its place", bridge.fault(1), 0);
    int[] others = {2, -1, 5, Integer.MAX_VALUE, Integer.MIN_VALUE};
    for (int what : others) {
      due("another what", bridge.fault(what), -1);
    }
    Checks.feed(bridge, "q");
    bridge.named(-1);
    due("of books alone", bridge.fault(0), 1);
    Checks.book(bridge, "scheme a int x;");
    due("without", bridge.fault(0), 0);
    due("its place", bridge.fault(1), -1);
    due("another what", bridge.fault(2), -1);
  }

  private static void counts() {
    sentence("Without a book 0 each.");
    RecordBridge bridge = new RecordBridge();
    for (int what = 0; what < 4; what++) {
      due("has " + what, bridge.has(what), 0);
    }
    Checks.book(bridge, "scheme a int x");
    for (int what = 0; what < 4; what++) {
      due("behind a fault, has " + what, bridge.has(what), 0);
    }
    sentence("NONE for others, a SCHEME that is none.");
    for (int what : new int[] {4, 5, 6, 7, 8, 9, 10, -1, Integer.MAX_VALUE, Integer.MIN_VALUE}) {
      due("has " + what, bridge.has(what), -1);
    }
    sentence("How many there are: 0 SCHEMES, 1 CROSSINGS, 2 RECORDS of all, 3 ACTS that can be undone; "
        + "4 + s: RECORDS of SCHEME s, 7 + s: its FIELDS.");
    Checks.book(bridge, "scheme a int x,int y;");
    int[] ofOne = {1, 0, 0, 0, 0, -1, -1, 2, -1, -1, -1};
    for (int what = 0; what < ofOne.length; what++) {
      due("has " + what + " of one", bridge.has(what), ofOne[what]);
    }
    Checks.book(bridge, SIX + ";scheme b int x;scheme c int x,int y;cross a to c x from a;");
    for (int i = 0; i < 3; i++) {
      for (int k = 0; k <= i; k++) {
        bridge.make(i);
      }
    }
    int[] ofThree = {3, 1, 6, 6, 1, 2, 3, 6, 1, 2, -1};
    for (int what = 0; what < ofThree.length; what++) {
      due("has " + what + " of three", bridge.has(what), ofThree[what]);
    }
    due("others", bridge.has(-1), -1);
  }

  private static void letters() {
    RecordBridge bridge = Checks.withBook("scheme person int abcdyz,int q;scheme z bit ab;");
    sentence("Letter k (0 .. 5) of the NAME of a SCHEME (field NONE) or a FIELD of it: 1 .. 26");
    int[] person = {16, 5, 18, 19, 15, 14};
    int[] abcdyz = {1, 2, 3, 4, 25, 26};
    for (int k = 0; k < 6; k++) {
      due("of a scheme", bridge.letter(0, -1, k), person[k]);
      due("of a field", bridge.letter(0, 0, k), abcdyz[k]);
    }
    sentence("0 behind it");
    for (int k = 1; k < 6; k++) {
      due("behind a scheme's", bridge.letter(1, -1, k), 0);
      due("behind a field's", bridge.letter(0, 1, k), 0);
      due("behind two", bridge.letter(1, 0, k), k == 1 ? 2 : 0);
    }
    sentence("NONE when there is none such.");
    int[][] none = {{0, -1, 6}, {0, -1, -1}, {0, 0, 6}, {0, 0, -1}, {1, -1, 6}, {0, 2, 0}, {0, -2, 0}, {1, 1, 0},
        {2, -1, 0}, {-1, -1, 0}, {2, 0, 0}, {0, 0, Integer.MAX_VALUE}, {0, 0, Integer.MIN_VALUE}};
    for (int[] at : none) {
      due("letter " + at[0] + " " + at[1] + " " + at[2], bridge.letter(at[0], at[1], at[2]), -1);
    }
  }

  private static int named(RecordBridge bridge, String name, int scheme) {
    Checks.feed(bridge, name);
    return bridge.named(scheme);
  }

  private static void named() {
    RecordBridge bridge = Checks.withBook("scheme a int abcdef,int z;scheme abcdef bit a;scheme z word z,int ab;");
    sentence("The tape (it goes) is a NAME: the SCHEME (scheme NONE), the FIELD of a SCHEME");
    due("a scheme", named(bridge, "a", -1), 0);
    due("of six letters", named(bridge, "abcdef", -1), 1);
    due("the last one", named(bridge, "z", -1), 2);
    due("a field", named(bridge, "abcdef", 0), 0);
    due("a field", named(bridge, "z", 0), 1);
    due("of another one", named(bridge, "z", 2), 0);
    due("of another one", named(bridge, "ab", 2), 1);
    due("the tape goes", bridge.end(1), false);
    Checks.feed(bridge, "scheme b int x");
    due("no name", bridge.named(-1), -1);
    due("the tape goes, too", bridge.end(1), false);
    Checks.feed(bridge, "z");
    due("no such scheme", bridge.named(3), -1);
    due("the tape goes, too", bridge.end(1), false);
    sentence("NONE when there is none such.");
    for (String no : new String[] {"", "b", "abcde", "abcdefg", "abcdeg", "A", "1", "scheme", "int", "a ", " a", "a;",
        "ab", "bcdef", "a\n", "a a"}) {
      due("named " + no, named(bridge, no, -1), -1);
    }
    for (int scheme : new int[] {3, -2, Integer.MAX_VALUE, Integer.MIN_VALUE}) {
      due("of no scheme", named(bridge, "a", scheme), -1);
    }
    due("a scheme is no field", named(bridge, "a", 0), -1);
    due("a field of another one", named(bridge, "z", 1), -1);
    due("without a book", named(new RecordBridge(), "a", -1), -1);
    due("without a book", named(new RecordBridge(), "a", 0), -1);
    due("a name is no act", bridge.has(3), 0);
  }

  private static void fields() {
    sentence("Of a FIELD: 0 KIND, 1 CELLS. NONE when there is none such, or for others.");
    RecordBridge bridge = Checks.withBook(SIX + " times 4;scheme b word w times 3;");
    due("kind", bridge.field(0, 5, 0), 4);
    due("cells", bridge.field(0, 5, 1), 4);
    due("kind", bridge.field(1, 0, 0), 8);
    due("cells", bridge.field(1, 0, 1), 3);
    int[][] none = {{0, 6, 0}, {0, -1, 0}, {1, 1, 0}, {1, 1, 1}, {2, 0, 0}, {-1, 0, 0}, {0, 0, 2}, {0, 0, -1},
        {0, Integer.MAX_VALUE, 0}, {Integer.MIN_VALUE, 0, 0}, {0, 0, Integer.MAX_VALUE}};
    for (int[] at : none) {
      due("field " + at[0] + " " + at[1] + " " + at[2], bridge.field(at[0], at[1], at[2]), -1);
    }
  }

  private static void crossingAnswers() {
    sentence("Of a CROSSING: 0 from, 1 to which SCHEME, 2 RULES, 3 FIELDS that they read, as bits, 4 FIELDS that "
        + "they fill.");
    RecordBridge bridge = Checks.withBook(SIX + ";scheme b int x;scheme c int u,int v,int w;"
        + "cross a to c w from f plus a,u from b over 3;cross b to a c from 5,f from 6;cross c to b x from v plus v;");
    int[][] due = {{0, 2, 2, 0b100011, 0b101}, {1, 0, 2, 0, 0b100100}, {2, 1, 1, 0b10, 1}};
    for (int crossing = 0; crossing < 3; crossing++) {
      for (int what = 0; what < 5; what++) {
        due("crossing " + crossing + " " + what, bridge.crossing(crossing, what), due[crossing][what]);
      }
    }
    due("all fields filled", Checks.withBook(SIX_RULES + ";").crossing(0, 4), 0b111111);
    sentence("NONE when there is none such, or for others.");
    int[][] none = {{3, 0}, {-1, 0}, {0, 5}, {0, -1}, {Integer.MAX_VALUE, 0}, {0, Integer.MIN_VALUE}};
    for (int[] at : none) {
      due("crossing " + at[0] + " " + at[1], bridge.crossing(at[0], at[1]), -1);
    }
    due("the fourth one", Checks.withBook(FOUR_CROSSINGS).crossing(3, 1), 1);
  }

  private static void ruleAnswers() {
    sentence("Of a RULE of a CROSSING: 0 the target, 1 the sort (0 alone, 1 by, 2 over, 3 plus, 4 a number), "
        + "2 the first FIELD (NONE of a number), 3 N (the second FIELD of plus; 0 alone), "
        + "4 whether what it makes WIDENS to its target.");
    RecordBridge bridge = Checks.withBook("scheme a byte b,int i,double d;scheme s long l,word w,int i,char "
        + "c,double d,byte b;"
        + "cross a to s b from b,i from i by 999,l from i over 1,d from d plus b,c from 0,w from 999;"
        + "cross a to s b from 5,i from 5,l from b plus i,d from d by 2,w from b,c from b;");
    int[][] due = {{5, 0, 0, 0, 1}, {2, 1, 1, 999, 0}, {0, 2, 1, 1, 1}, {4, 3, 2, 0, 1}, {3, 4, -1, 0, 0},
        {1, 4, -1, 999, 0}};
    int[][] others = {{5, 4, -1, 5, 0}, {2, 4, -1, 5, 1}, {0, 3, 0, 1, 1}, {4, 1, 2, 2, 1}, {1, 0, 0, 0, 0},
        {3, 0, 0, 0, 0}};
    for (int rule = 0; rule < 6; rule++) {
      for (int what = 0; what < 5; what++) {
        due("rule 0 " + rule + " " + what, bridge.rule(0, rule, what), due[rule][what]);
        due("rule 1 " + rule + " " + what, bridge.rule(1, rule, what), others[rule][what]);
      }
    }
    sentence("NONE when there is none such, or for others.");
    int[][] none = {{2, 0, 0}, {-1, 0, 0}, {0, 6, 0}, {0, -1, 0}, {0, 0, 5}, {0, 0, -1}, {0, Integer.MAX_VALUE, 0},
        {Integer.MIN_VALUE, 0, 0}, {0, 0, Integer.MAX_VALUE}};
    for (int[] at : none) {
      due("rule " + at[0] + " " + at[1] + " " + at[2], bridge.rule(at[0], at[1], at[2]), -1);
    }
    due("behind the last", Checks.withBook(CROSS + "z from i;").rule(0, 1, 0), -1);
  }

  private static void widening() {
    sentence("Whether a KIND WIDENS to another one: 1, 0; NONE when there are none such.");
    RecordBridge bridge = new RecordBridge();
    due("one kind", bridge.widens(8, 8), 1);
    due("one kind", bridge.widens(0, 0), 1);
    due("byte to short", bridge.widens(1, 3), 1);
    due("short to byte", bridge.widens(3, 1), 0);
    int[] none = {-1, 9, 10, Integer.MAX_VALUE, Integer.MIN_VALUE};
    for (int no : none) {
      due("from none", bridge.widens(no, 0), -1);
      due("to none", bridge.widens(0, no), -1);
      due("none to none", bridge.widens(no, no), -1);
    }
  }
}
