/** Promises 1 to 12: the tape, books and their faults, what a book tells. */
public final class BookTest {
  private static final Checks CHECKS = new Checks();
  private static final String TWO = "scheme a bit o,int i,word w,float r;scheme b bit y,int z,word w;";
  private static final String PEOPLE =
      "scheme person bit a,byte bb,char c,short d,int abcdef times 2,long f;\n"
          + "scheme q float g,double h times 4,word w;"
          + "cross person to q g from bb,h from abcdef by 12,w from f;"
          + "cross q to person f from w,bb from g,abcdef from 7,d from g plus h,c from h over 999;";

  public static void main(String[] args) {
    newObject();
    feedAndEnd();
    books();
    textFaults();
    cutFaults();
    longNames();
    numberFaults();
    nameFaults();
    fieldFaults();
    tooManyFaults();
    afterFaults();
    counts();
    letters();
    names();
    fields();
    crossings();
    rules();
    widening();
    CHECKS.close("BookTest");
  }

  private static void due(String what, long got, long want) {
    CHECKS.due(what, got, want);
  }

  private static void due(String what, boolean got, boolean want) {
    CHECKS.due(what, got, want);
  }

  private static void fault(String text, int sort, int place) {
    RecordBridge bridge = new RecordBridge();
    due("book() of " + text, Checks.book(bridge, text), -1);
    due("fault of " + text, bridge.fault(0), sort);
    due("its place", bridge.fault(1), place);
    due("refused", bridge.status(1), 1);
  }

  /** The fault at the place at which the rest, the second text, begins. */
  private static void faultAt(String text, String rest, int sort) {
    fault(text + rest, sort, text.length());
  }

  private static void good(String text, int statements) {
    RecordBridge bridge = new RecordBridge();
    due("book() of " + text, Checks.book(bridge, text), statements);
    due("fault of " + text, bridge.fault(0), 0);
    due("its place", bridge.fault(1), -1);
  }

  private static void newObject() {
    RecordBridge bridge = new RecordBridge();
    for (int what = 0; what < 4; what++) {
      due("has without a book " + what, bridge.has(what), 0);
    }
    for (int what = 4; what < 10; what++) {
      due("has without a book " + what, bridge.has(what), -1);
    }
    due("fault ahead of any", bridge.fault(0), 0);
    due("place ahead of any", bridge.fault(1), -1);
    due("why ahead of any", bridge.why(), 0);
    due("account ahead of any", bridge.account(0), -1);
    for (int what = 0; what < 6; what++) {
      due("status at first " + what, bridge.status(what), 0);
    }
  }

  private static void feedAndEnd() {
    RecordBridge bridge = new RecordBridge();
    for (int i = 1; i <= 80; i++) {
      due("feed", bridge.feed(0x20202020, 0x20202020, 0x20202020, 0x20202020, 0x20202020), 20 * i);
    }
    due("feed beyond 1600", bridge.feed(0, 0, 0, 0, 0), -1);
    due("refused", bridge.status(0), 1);
    due("end beyond", bridge.end(1601), false);
    due("end below", bridge.end(-1), false);
    due("refused", bridge.status(0), 3);
    due("end at all", bridge.end(1600), true);
    due("end", bridge.end(1581), true);
    due("feed beyond 1600", bridge.feed(0, 0, 0, 0, 0), -1);
    due("end", bridge.end(1580), true);
    due("feed up to 1600", bridge.feed(0, 0, 0, 0, 0), 1600);
    due("end at 0", bridge.end(0), true);
    due("end behind it", bridge.end(1), false);
    due("feed", bridge.feed(0x61626364, 0x80000000, -1, 0, 0), 20);
    due("end", bridge.end(4), true);
    due("the highest byte first", bridge.named(-1), -1);
    due("a book of 1600 bytes", longestBook(), 1);
    due("refused", bridge.status(0), 5);
  }

  private static int longestBook() {
    StringBuilder text = new StringBuilder("scheme a int x");
    while (text.length() < 1599) {
      text.append('\n');
    }
    return Checks.book(new RecordBridge(), text.append(';').toString());
  }

  private static void books() {
    good("scheme a int x;", 1);
    good("\n\n scheme\na\nint x\n;\n", 1);
    good("scheme a int x times 1,bit y times 4;", 1);
    good("scheme a int x times 001;", 1);
    good("scheme a int a;scheme b int a;scheme c int a;", 3);
    good(TWO + "cross a to b z from 0;", 3);
    good(TWO + "cross a to b z from 999,w from 000,y from o;", 3);
    good(TWO + "cross a to b y from i by 1,z from r over 999,w from i plus r;", 3);
    good(TWO + "cross a to b y from w,z from w,w from o;", 3);
    good(TWO + "cross a to b y from w;cross b to a o from y;cross a to b y from o;cross b to a i from z;", 6);
    good(PEOPLE, 4);
    good("scheme a bit a,byte b,char c,short d,int e,long f;scheme b float a,double b,word c;", 2);
  }

  private static void textFaults() {
    fault("", 1, 0);
    fault(" \n ", 1, 3);
    fault(";", 1, 0);
    fault("cross a to b x from y;", 1, 0);
    fault("schem", 1, 0);
    fault("schemes a int x;", 1, 0);
    fault("scheme", 1, 6);
    fault("scheme ", 1, 7);
    fault("scheme a\tint x;", 1, 8);
    faultAt("scheme ", "int int x;", 1);
    faultAt("scheme ", "plus int x;", 1);
    faultAt("scheme abcdef", "g int x;", 1);
    faultAt("scheme ", "A int x;", 1);
    faultAt("scheme a", "B int x;", 1);
    faultAt("scheme ", "4 int x;", 1);
    faultAt("scheme", "4 int x;", 1);
    faultAt("scheme a ", "integer x;", 1);
    faultAt("scheme a ", "times x;", 1);
    faultAt("scheme a ", ";", 1);
    faultAt("scheme a int ", "word;", 1);
    faultAt("scheme a int ", ",", 1);
    faultAt("scheme a int x ", "by 3;", 1);
    faultAt("scheme a int x ", "timesx 3;", 1);
    faultAt("scheme a int x ", "3;", 1);
    faultAt("scheme a int x times", "3;", 1);
    faultAt("scheme a int x times ", "x;", 1);
    faultAt("scheme a int x times ", "-1;", 1);
    faultAt("scheme a int x times 3", "x;", 1);
    faultAt("scheme a int x times 3 ", "3;", 1);
    faultAt("scheme a int x times 000", "1;", 1);
    faultAt("scheme a int x times 500", "0;", 1);
    faultAt("scheme a int x times 3 ", "times 3;", 1);
    faultAt("scheme a int x,", ";", 1);
    faultAt("scheme a int x;", ";", 1);
    faultAt("scheme a int x;", "int y;", 1);
    fault("scheme a int x; ", 0);
    fault("scheme a int x, ", 1, 16);
    faultAt(TWO, "crosses a to b y from o;", 1);
    faultAt(TWO + "cross ", "to to b y from o;", 1);
    faultAt(TWO + "cross a ", "b y from o;", 1);
    faultAt(TWO + "cross a ", "from b y from o;", 1);
    faultAt(TWO + "cross a to b ", "from o;", 1);
    faultAt(TWO + "cross a to b ", ";", 1);
    faultAt(TWO + "cross a to b y ", "o;", 1);
    faultAt(TWO + "cross a to b y from ", "by;", 1);
    faultAt(TWO + "cross a to b y from ", ";", 1);
    faultAt(TWO + "cross a to b z from", "1;", 1);
    faultAt(TWO + "cross a to b z from 1 ", "by 2;", 1);
    faultAt(TWO + "cross a to b z from i ", "times 2;", 1);
    faultAt(TWO + "cross a to b z from i ", "byebyes 2;", 1);
    faultAt(TWO + "cross a to b z from i by", "2;", 1);
    faultAt(TWO + "cross a to b z from i by ", "i;", 1);
    faultAt(TWO + "cross a to b z from i plus ", "2;", 1);
    faultAt(TWO + "cross a to b z from i by 2", "i;", 1);
    faultAt(TWO + "cross a to b z from i by 2 ", "plus i;", 1);
    faultAt(TWO + "cross a to b z from i by 100", "1;", 1);
    faultAt(TWO + "cross a to b z from 100", "0;", 1);
    faultAt(TWO + "cross a to b y from 100", "0;", 1);
    faultAt(TWO + "cross a to b z from i", "", 1);
    faultAt(TWO + "cross a to b z from i plus", "", 1);
    faultAt(TWO + "cross a to b z from i ", "\u00e9;", 1);
  }

  /** What stood on the tape behind its end counts for nothing. */
  private static void cutFaults() {
    String text = "scheme abcdefg int x times 1,word zzz;";
    for (int length = 0; length < text.length(); length++) {
      RecordBridge cut = new RecordBridge();
      Checks.feed(cut, text);
      cut.end(length);
      RecordBridge whole = new RecordBridge();
      Checks.feed(whole, text.substring(0, length));
      due("book() of " + length, cut.book(), whole.book());
      due("its place", cut.fault(1), whole.fault(1));
    }
    RecordBridge bridge = new RecordBridge();
    Checks.feed(bridge, "scheme a int xy;");
    bridge.end(14);
    due("a word cut short", bridge.book(), -1);
    due("its place", bridge.fault(1), 14);
    Checks.feed(bridge, "scheme a int x times 11");
    bridge.end(22);
    due("a number cut short", bridge.book(), -1);
    due("its place", bridge.fault(1), 22);
  }

  /** Seven letters, and none at all, wherever a name is asked. */
  private static void longNames() {
    String[] ahead = {"scheme ", "scheme a int ", TWO + "cross ", TWO + "cross a to ", TWO + "cross a to b ",
        TWO + "cross a to b z from ", TWO + "cross a to b z from i plus "};
    for (String text : ahead) {
      faultAt(text + "abcdef", "g", 1);
      faultAt(text, "cross", 1);
      faultAt(text, "", 1);
      faultAt(text, ",", 1);
    }
  }

  /** No fault: the text is a book. */
  private static void fault(String text, int sort) {
    RecordBridge bridge = new RecordBridge();
    Checks.book(bridge, text);
    due("fault of " + text, bridge.fault(0), sort);
  }

  private static void numberFaults() {
    faultAt("scheme a int x times ", "0;", 2);
    faultAt("scheme a int x times ", "5;", 2);
    faultAt("scheme a int x times ", "999!", 2);
    faultAt(TWO + "cross a to b z from i by ", "0;", 2);
    faultAt(TWO + "cross a to b z from i over ", "000;", 2);
  }

  private static void nameFaults() {
    faultAt("scheme a int x;scheme ", "a int x;", 3);
    faultAt("scheme a int x,bit ", "x times 9;", 3);
    faultAt(TWO + "cross ", "c to b y from o;", 3);
    faultAt(TWO + "cross ", "y to b y from o;", 3);
    faultAt(TWO + "cross a to ", "a y from o;", 3);
    faultAt(TWO + "cross a to ", "c y from o;", 3);
    faultAt(TWO + "cross a to b ", "o from o;", 3);
    faultAt(TWO + "cross a to b y from o,", "y from 3;", 3);
    faultAt(TWO + "cross a to b y from ", "y;", 3);
    faultAt(TWO + "cross a to b y from ", "z by 0;", 3);
    faultAt(TWO + "cross a to b y from i plus ", "z;", 3);
  }

  private static void fieldFaults() {
    faultAt(TWO + "cross a to b y from o ", "by 0;", 4);
    faultAt(TWO + "cross a to b y from w ", "over 3;", 4);
    faultAt(TWO + "cross a to b y from o ", "plus i;", 4);
    faultAt(TWO + "cross a to b y from i plus ", "o;", 4);
    faultAt(TWO + "cross a to b y from i plus ", "w;", 4);
    faultAt(TWO + "cross a to b y from ", "0;", 4);
    faultAt(TWO + "cross a to b w from 0,y from ", "999;", 4);
  }

  private static void tooManyFaults() {
    String six = "scheme a int a,int b,int c,int d,int e,int f";
    good(six + ";", 1);
    faultAt(six + ", ", "int g;", 5);
    faultAt(six + ",", ";", 5);
    faultAt(six + ",", "!", 5);
    faultAt(six + ",\n", "abcdefgh", 5);
    faultAt(six + ", ", "", 1);
    String three = "scheme a int x;scheme b int x;scheme c int x;";
    faultAt(three, "scheme", 5);
    faultAt(three, "schemed", 1);
    String cross = "cross a to b x from x;";
    faultAt("scheme a int x;scheme b int x;" + cross, "scheme c int x;", 5);
    faultAt(three + cross + cross + cross + cross, "cross", 5);
    faultAt(three + cross + cross + cross + cross, "scheme", 5);
    faultAt(three + cross + cross + cross + cross, "x", 1);
    String rules = "a from 1,b from 2,c from 3,d from 4,e from 5,f from 6";
    String full = six + ";scheme b int x;cross b to a " + rules;
    good(full + ";", 3);
    faultAt(full + ", ", "a from 1;", 5);
    faultAt(full + ",", ",", 5);
    faultAt(full + ", ", "", 1);
  }

  private static void afterFaults() {
    RecordBridge bridge = Checks.withBook(TWO + "cross a to b z from i;");
    bridge.make(0);
    bridge.write(0, 1, 0, 4, 77);
    bridge.cross(0, 0);
    bridge.put(0, 8, 0, 10, 0);
    due("no book", Checks.book(bridge, "scheme c int x"), -1);
    due("its fault", bridge.fault(0), 1);
    due("its place", bridge.fault(1), 14);
    due("no such fault", bridge.fault(2), -1);
    due("no such fault", bridge.fault(-1), -1);
    due("schemes stay", bridge.has(0), 2);
    due("crossings stay", bridge.has(1), 1);
    due("records stay", bridge.has(2), 2);
    due("acts stay", bridge.has(3), 4);
    due("the account stays", bridge.account(0), 1);
    due("cells stay", bridge.cell(1, 1, 0, 0), 77);
    due("things stay", bridge.get(0, 8, 0, 0), 10);
    due("the tape goes", bridge.end(1), false);
    bridge.seed(77);
    due("a new book", Checks.book(bridge, TWO), 2);
    due("no fault", bridge.fault(0), 0);
    due("no place", bridge.fault(1), -1);
    due("no crossing", bridge.has(1), 0);
    due("no records", bridge.has(2), 0);
    due("no acts", bridge.has(3), 0);
    due("no undo", bridge.undo(), false);
    due("no account", bridge.account(0), -1);
    due("things as at first", bridge.get(0, 8, 0, 1), 7);
    due("places as at first", bridge.get(0, 1, 0, 1), 0);
    due("the tape goes", bridge.end(1), false);
    bridge.chance(1);
    RecordBridge other = Checks.withBook(TWO);
    other.seed(77);
    other.chance(1);
    due("the seed stays", bridge.has(4), other.has(4));
    due("the seed stays", bridge.has(4) == 1 ? bridge.cell(0, 1, 0, 0) : bridge.cell(1, 1, 0, 0),
        other.has(4) == 1 ? other.cell(0, 1, 0, 0) : other.cell(1, 1, 0, 0));
  }

  private static void counts() {
    RecordBridge bridge = Checks.withBook("scheme a int x,int y;scheme b int x;scheme c bit a,bit b,bit c;"
        + "cross a to b x from y;");
    bridge.make(0);
    bridge.make(2);
    bridge.make(2);
    int[] due = {3, 1, 3, 3, 1, 0, 2, 2, 1, 3};
    for (int what = 0; what < 10; what++) {
      due("has " + what, bridge.has(what), due[what]);
    }
    due("has 10", bridge.has(10), -1);
    due("has -1", bridge.has(-1), -1);
    bridge = Checks.withBook("scheme a int x;");
    due("has records of none", bridge.has(5), -1);
    due("has fields of none", bridge.has(8), -1);
  }

  private static void letters() {
    RecordBridge bridge = Checks.withBook(PEOPLE);
    String name = "person";
    for (int k = 0; k < 6; k++) {
      due("letter of a scheme", bridge.letter(0, -1, k), name.charAt(k) - 'a' + 1);
      due("letter of a field", bridge.letter(0, 4, k), k + 1);
    }
    due("first of two", bridge.letter(0, 1, 0), 2);
    due("second of two", bridge.letter(0, 1, 1), 2);
    due("behind", bridge.letter(0, 1, 2), 0);
    due("behind", bridge.letter(1, -1, 5), 0);
    due("no such letter", bridge.letter(0, 1, 6), -1);
    due("no such letter", bridge.letter(0, 1, -1), -1);
    due("no such field", bridge.letter(1, 3, 0), -1);
    due("no such field", bridge.letter(1, -2, 0), -1);
    due("no such scheme", bridge.letter(2, -1, 0), -1);
    due("no such scheme", bridge.letter(-1, -1, 0), -1);
  }

  private static void named(RecordBridge bridge, String name, int scheme, int want) {
    Checks.feed(bridge, name);
    due("named " + name + " " + scheme, bridge.named(scheme), want);
    due("the tape goes", bridge.end(1), false);
  }

  private static void names() {
    RecordBridge bridge = Checks.withBook(PEOPLE);
    named(bridge, "person", -1, 0);
    named(bridge, "q", -1, 1);
    named(bridge, "perso", -1, -1);
    named(bridge, "persons", -1, -1);
    named(bridge, "q ", -1, -1);
    named(bridge, " q", -1, -1);
    named(bridge, "", -1, -1);
    named(bridge, "abcdef", 0, 4);
    named(bridge, "abcdefg", 0, -1);
    named(bridge, "w", 1, 2);
    named(bridge, "w", 0, -1);
    named(bridge, "w", 2, -1);
    named(bridge, "w", -2, -1);
    named(bridge, "person", 0, -1);
    named(bridge, "scheme", -1, -1);
    due("refused for the ends alone", bridge.status(0), 15);
    due("not refused", bridge.status(1), 0);
  }

  private static void fields() {
    RecordBridge bridge = Checks.withBook(PEOPLE);
    for (int field = 0; field < 6; field++) {
      due("kind", bridge.field(0, field, 0), field);
      due("cells", bridge.field(0, field, 1), field == 4 ? 2 : 1);
    }
    due("kind", bridge.field(1, 0, 0), 6);
    due("kind", bridge.field(1, 1, 0), 7);
    due("kind", bridge.field(1, 2, 0), 8);
    due("cells", bridge.field(1, 1, 1), 4);
    due("others", bridge.field(0, 0, 2), -1);
    due("others", bridge.field(0, 0, -1), -1);
    due("no field", bridge.field(1, 3, 0), -1);
    due("no field", bridge.field(1, -1, 0), -1);
    due("no scheme", bridge.field(2, 0, 0), -1);
    due("no scheme", bridge.field(-1, 0, 0), -1);
  }

  private static void crossings() {
    RecordBridge bridge = Checks.withBook(PEOPLE);
    int[] first = {0, 1, 3, 0b110010, 0b111};
    int[] second = {1, 0, 5, 0b111, 0b111110};
    for (int what = 0; what < 5; what++) {
      due("crossing 0, " + what, bridge.crossing(0, what), first[what]);
      due("crossing 1, " + what, bridge.crossing(1, what), second[what]);
    }
    due("others", bridge.crossing(0, 5), -1);
    due("others", bridge.crossing(0, -1), -1);
    due("none", bridge.crossing(2, 0), -1);
    due("none", bridge.crossing(-1, 0), -1);
  }

  private static void ruleIs(RecordBridge bridge, int crossing, int rule, int... due) {
    for (int what = 0; what < 5; what++) {
      due("rule " + crossing + " " + rule + " " + what, bridge.rule(crossing, rule, what), due[what]);
    }
  }

  private static void rules() {
    RecordBridge bridge = Checks.withBook(PEOPLE);
    ruleIs(bridge, 0, 0, 0, 0, 1, 0, 1);
    ruleIs(bridge, 0, 1, 1, 1, 4, 12, 1);
    ruleIs(bridge, 0, 2, 2, 0, 5, 0, 0);
    ruleIs(bridge, 1, 0, 5, 0, 2, 0, 0);
    ruleIs(bridge, 1, 1, 1, 0, 0, 0, 0);
    ruleIs(bridge, 1, 2, 4, 4, -1, 7, 1);
    ruleIs(bridge, 1, 3, 3, 3, 0, 1, 0);
    ruleIs(bridge, 1, 4, 2, 2, 1, 999, 0);
    ruleIs(Checks.withBook("scheme a int x,float y;scheme b float f,double d,long l,int i;"
        + "cross a to b l from x plus x,d from x plus y,i from x by 2,f from 5;"), 0, 0, 2, 3, 0, 0, 1);
    RecordBridge kinds = Checks.withBook("scheme a int x,float y;scheme b float f,double d,long l,int i;"
        + "cross a to b l from x over 2,d from y plus x,i from x by 2,f from y by 1;");
    ruleIs(kinds, 0, 0, 2, 2, 0, 2, 1);
    ruleIs(kinds, 0, 1, 1, 3, 1, 0, 1);
    ruleIs(kinds, 0, 2, 3, 1, 0, 2, 0);
    ruleIs(kinds, 0, 3, 0, 1, 1, 1, 0);
    due("others", bridge.rule(0, 0, 5), -1);
    due("others", bridge.rule(0, 0, -1), -1);
    due("no rule", bridge.rule(0, 3, 0), -1);
    due("no rule", bridge.rule(0, -1, 0), -1);
    due("no crossing", bridge.rule(2, 0, 0), -1);
    due("no crossing", bridge.rule(-1, 0, 0), -1);
  }

  private static void widening() {
    String[] wide = {"0", "134567", "24567", "34567", "4567", "567", "67", "7", "8"};
    RecordBridge bridge = new RecordBridge();
    for (int from = -1; from < 10; from++) {
      for (int to = -1; to < 10; to++) {
        boolean there = from >= 0 && from < 9 && to >= 0 && to < 9;
        int want = !there ? -1 : wide[from].contains("" + to) ? 1 : 0;
        due("widens " + from + " " + to, bridge.widens(from, to), want);
      }
    }
  }
}
