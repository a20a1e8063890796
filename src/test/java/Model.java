import java.lang.reflect.Array;
import java.util.ArrayDeque;
import java.util.ArrayList;
import java.util.Arrays;
import java.util.BitSet;
import java.util.HashMap;
import java.util.List;
import java.util.Map;
import java.util.Objects;

/**
 * The document told a second time, by the Java library: rows are arrays of Java's own types behind
 * java.lang.reflect.Array, values are boxed, what is undone is a copy of all. FuzzTest sets it beside the class.
 */
final class Model {
  static final int NONE = -1;
  static final long NOTHING = -4611686018427387904L;
  private static final List<String> KINDS =
      List.of("bit", "byte", "char", "short", "int", "long", "float", "double", "word");
  private static final List<String> OWN_WORDS = List.of("scheme", "times", "cross", "to", "from", "by", "over", "plus");
  private static final Class<?>[] TYPES = {
    boolean.class, byte.class, char.class, short.class, int.class, long.class, float.class, double.class, String.class
  };

  record Own(int number) {}

  record Field(String name, int kind, int cells) {}

  record Rule(int target, int sort, int first, int other) {}

  static final class Scheme {
    String name;
    final List<Field> fields = new ArrayList<>();

    int find(String wanted) {
      for (int i = 0; i < fields.size(); i++) {
        if (fields.get(i).name().equals(wanted)) {
          return i;
        }
      }
      return NONE;
    }

    int cells() {
      return fields.stream().mapToInt(Field::cells).sum();
    }
  }

  static final class Crossing {
    int from;
    int to;
    final List<Rule> rules = new ArrayList<>();
  }

  static final class Fault extends RuntimeException {
    private static final long serialVersionUID = 1;
    final int sort;
    final int place;

    Fault(int sort, int place) {
      super(null, null, false, false);
      this.sort = sort;
      this.place = place;
    }
  }

  /** What acts change. */
  static final class State {
    final List<Object[]> rows = new ArrayList<>();
    int[] counts = new int[3];
    Object[] things = {7, "ab", null, true};

    State like() {
      State other = new State();
      for (Object[] ofScheme : rows) {
        Object[] copies = new Object[ofScheme.length];
        for (int i = 0; i < copies.length; i++) {
          int length = Array.getLength(ofScheme[i]);
          copies[i] = Array.newInstance(ofScheme[i].getClass().getComponentType(), length);
          System.arraycopy(ofScheme[i], 0, copies[i], 0, length);
        }
        other.rows.add(copies);
      }
      other.counts = counts.clone();
      other.things = things.clone();
      return other;
    }
  }

  private final StringBuilder tape = new StringBuilder();
  private List<Scheme> schemes = new ArrayList<>();
  private List<Crossing> crossings = new ArrayList<>();
  private State state = new State();
  private final ArrayDeque<State> past = new ArrayDeque<>();
  private final int[] refused = new int[6];
  private int[] latest;
  private int faultSort;
  private int faultPlace = NONE;
  private int why;
  private long x = 1;

  // ---- tape and book

  int feed(int... numbers) {
    if (tape.length() + 20 > 1600) {
      return refuse(0);
    }
    for (int number : numbers) {
      for (int shift = 24; shift >= 0; shift -= 8) {
        tape.append((char) (number >> shift & 255));
      }
    }
    return tape.length();
  }

  boolean end(int n) {
    if (n < 0 || n > tape.length()) {
      return refuse(0) != NONE;
    }
    tape.setLength(n);
    return true;
  }

  private int refuse(int what) {
    refused[what]++;
    return NONE;
  }

  private String takeTape() {
    String text = tape.toString();
    tape.setLength(0);
    return text;
  }

  int book() {
    Parser parser = new Parser(takeTape());
    try {
      parser.parse();
    } catch (Fault fault) {
      faultSort = fault.sort;
      faultPlace = fault.place;
      return refuse(1);
    }
    faultSort = 0;
    faultPlace = NONE;
    schemes = parser.schemes;
    crossings = parser.crossings;
    state = new State();
    for (Scheme scheme : schemes) {
      Object[] rows = new Object[scheme.fields.size()];
      for (int i = 0; i < rows.length; i++) {
        Field field = scheme.fields.get(i);
        rows[i] = Array.newInstance(TYPES[field.kind()], 8 * field.cells());
        if (rows[i] instanceof String[] words) {
          Arrays.fill(words, "");
        }
      }
      state.rows.add(rows);
    }
    past.clear();
    latest = null;
    return schemes.size() + crossings.size();
  }

  /** Recursive descent; each fault is thrown where it is found. */
  static final class Parser {
    final List<Scheme> schemes = new ArrayList<>();
    final List<Crossing> crossings = new ArrayList<>();
    private final String text;
    private int at;

    Parser(String text) {
      this.text = text;
    }

    private void blanks() {
      while (at < text.length() && (text.charAt(at) == ' ' || text.charAt(at) == '\n')) {
        at++;
      }
    }

    private String run(char low, char high) {
      blanks();
      int stop = at;
      while (stop < text.length() && text.charAt(stop) >= low && text.charAt(stop) <= high) {
        stop++;
      }
      return text.substring(at, stop);
    }

    private void parse() {
      blanks();
      do {
        statement();
        blanks();
      } while (at < text.length());
    }

    private void statement() {
      String word = run('a', 'z');
      if (word.equals("scheme")) {
        if (schemes.size() == 3 || !crossings.isEmpty()) {
          throw new Fault(5, at);
        }
        at += 6;
        scheme();
      } else if (word.equals("cross") && !schemes.isEmpty()) {
        if (crossings.size() == 4) {
          throw new Fault(5, at);
        }
        at += 5;
        cross();
      } else {
        throw new Fault(1, at);
      }
    }

    /** Its place is at less its length then. */
    private String name() {
      String word = run('a', 'z');
      if (word.length() > 6) {
        throw new Fault(1, at + 6);
      }
      if (word.isEmpty() || KINDS.contains(word) || OWN_WORDS.contains(word)) {
        throw new Fault(1, at);
      }
      at += word.length();
      return word;
    }

    private int number(int low, int high) {
      String digits = run('0', '9');
      if (digits.isEmpty() || text.substring(0, at).matches("(?s).*[a-z]")) {
        throw new Fault(1, at);
      }
      if (digits.length() > 3) {
        throw new Fault(1, at + 3);
      }
      int number = Integer.parseInt(digits);
      if (number < low || number > high) {
        throw new Fault(2, at);
      }
      at += digits.length();
      return number;
    }

    private void keyword(String wanted) {
      if (!run('a', 'z').equals(wanted)) {
        throw new Fault(1, at);
      }
      at += wanted.length();
    }

    private boolean another(int count) {
      blanks();
      if (at == text.length() || text.charAt(at) != ',' && text.charAt(at) != ';') {
        throw new Fault(1, at);
      }
      boolean comma = text.charAt(at) == ',';
      at++;
      blanks();
      if (comma && count == 6) {
        throw new Fault(at < text.length() ? 5 : 1, at);
      }
      return comma;
    }

    private void scheme() {
      String name = name();
      if (schemeNamed(name) != NONE) {
        throw new Fault(3, at - name.length());
      }
      Scheme scheme = new Scheme();
      scheme.name = name;
      schemes.add(scheme);
      do {
        String kind = run('a', 'z');
        if (!KINDS.contains(kind)) {
          throw new Fault(1, at);
        }
        at += kind.length();
        String field = name();
        if (scheme.find(field) != NONE) {
          throw new Fault(3, at - field.length());
        }
        int cells = 1;
        if (run('a', 'z').equals("times")) {
          at += 5;
          cells = number(1, 4);
        }
        scheme.fields.add(new Field(field, KINDS.indexOf(kind), cells));
      } while (another(scheme.fields.size()));
    }

    private int schemeNamed(String name) {
      for (int i = 0; i < schemes.size(); i++) {
        if (schemes.get(i).name.equals(name)) {
          return i;
        }
      }
      return NONE;
    }

    private int known(int index, String name) {
      if (index == NONE) {
        throw new Fault(3, at - name.length());
      }
      return index;
    }

    private void cross() {
      Crossing crossing = new Crossing();
      String first = name();
      crossing.from = known(schemeNamed(first), first);
      keyword("to");
      String second = name();
      crossing.to = known(schemeNamed(second), second);
      if (crossing.from == crossing.to) {
        throw new Fault(3, at - second.length());
      }
      Scheme from = schemes.get(crossing.from);
      Scheme to = schemes.get(crossing.to);
      do {
        crossing.rules.add(rule(crossing, from, to));
      } while (another(crossing.rules.size()));
      crossings.add(crossing);
    }

    private Rule rule(Crossing crossing, Scheme from, Scheme to) {
      String name = name();
      int target = known(to.find(name), name);
      if (crossing.rules.stream().anyMatch(rule -> rule.target() == target)) {
        throw new Fault(3, at - name.length());
      }
      keyword("from");
      blanks();
      if (at < text.length() && Character.isDigit(text.charAt(at))) {
        int begin = at;
        int number = number(0, 999);
        if (to.fields.get(target).kind() == 0) {
          throw new Fault(4, begin);
        }
        return new Rule(target, 4, NONE, number);
      }
      String source = name();
      int first = known(from.find(source), source);
      String word = run('a', 'z');
      int sort = List.of("by", "over", "plus").indexOf(word) + 1;
      if (sort == 0) {
        return new Rule(target, 0, first, 0);
      }
      if (!isNumber(from, first)) {
        throw new Fault(4, at);
      }
      at += word.length();
      if (sort < 3) {
        return new Rule(target, sort, first, number(1, 999));
      }
      String other = name();
      int second = known(from.find(other), other);
      if (!isNumber(from, second)) {
        throw new Fault(4, at - other.length());
      }
      return new Rule(target, 3, first, second);
    }

    private static boolean isNumber(Scheme scheme, int field) {
      int kind = scheme.fields.get(field).kind();
      return kind > 0 && kind < 8;
    }
  }

  int fault(int what) {
    return what == 0 ? faultSort : what == 1 ? faultPlace : NONE;
  }

  private Scheme scheme(int scheme) {
    return scheme >= 0 && scheme < schemes.size() ? schemes.get(scheme) : null;
  }

  private Field fieldOf(int scheme, int field) {
    Scheme found = scheme(scheme);
    return found != null && field >= 0 && field < found.fields.size() ? found.fields.get(field) : null;
  }

  private Crossing crossingOf(int crossing) {
    return crossing >= 0 && crossing < crossings.size() ? crossings.get(crossing) : null;
  }

  private boolean has(int scheme, int record) {
    return scheme(scheme) != null && record >= 0 && record < state.counts[scheme];
  }

  int has(int what) {
    if (what >= 0 && what < 4) {
      return new int[] {schemes.size(), crossings.size(), Arrays.stream(state.counts).sum(), past.size()}[what];
    }
    if (what >= 4 && what < 7 && scheme(what - 4) != null) {
      return state.counts[what - 4];
    }
    return what >= 7 && what < 10 && scheme(what - 7) != null ? scheme(what - 7).fields.size() : NONE;
  }

  int letter(int scheme, int field, int k) {
    Scheme found = scheme(scheme);
    Field inside = fieldOf(scheme, field);
    if (found == null || field != NONE && inside == null || k < 0 || k > 5) {
      return NONE;
    }
    String name = field == NONE ? found.name : inside.name();
    return k < name.length() ? name.charAt(k) - 'a' + 1 : 0;
  }

  int named(int scheme) {
    String name = takeTape();
    for (int i = 0; i < schemes.size() && scheme == NONE; i++) {
      if (schemes.get(i).name.equals(name)) {
        return i;
      }
    }
    return scheme(scheme) == null ? NONE : scheme(scheme).find(name);
  }

  int field(int scheme, int field, int what) {
    Field found = fieldOf(scheme, field);
    return found == null ? NONE : what == 0 ? found.kind() : what == 1 ? found.cells() : NONE;
  }

  private static int readBits(Rule rule) {
    return rule.sort() == 4 ? 0 : 1 << rule.first() | (rule.sort() == 3 ? 1 << rule.other() : 0);
  }

  int crossing(int crossing, int what) {
    Crossing found = crossingOf(crossing);
    if (found == null || what < 0 || what > 4) {
      return NONE;
    }
    int read = 0;
    int filled = 0;
    for (Rule rule : found.rules) {
      read |= readBits(rule);
      filled |= 1 << rule.target();
    }
    return new int[] {found.from, found.to, found.rules.size(), read, filled}[what];
  }

  private int madeKind(Rule rule, Scheme from) {
    if (rule.sort() == 4) {
      return 4;
    }
    int kind = from.fields.get(rule.first()).kind();
    if (rule.sort() == 0) {
      return kind;
    }
    boolean whole = kind < 6 && (rule.sort() != 3 || from.fields.get(rule.other()).kind() < 6);
    return whole ? 5 : 7;
  }

  int rule(int crossing, int rule, int what) {
    Crossing found = crossingOf(crossing);
    if (found == null || rule < 0 || rule >= found.rules.size() || what < 0 || what > 4) {
      return NONE;
    }
    Rule asked = found.rules.get(rule);
    int made = madeKind(asked, schemes.get(found.from));
    int target = schemes.get(found.to).fields.get(asked.target()).kind();
    return new int[] {asked.target(), asked.sort(), asked.first(), asked.other(), widens(made, target)}[what];
  }

  int widens(int from, int to) {
    if (Math.min(from, to) < 0 || Math.max(from, to) > 8) {
      return NONE;
    }
    String[] wider = {"0", "134567", "24567", "34567", "4567", "567", "67", "7", "8"};
    return wider[from].indexOf((char) ('0' + to)) >= 0 ? 1 : 0;
  }

  // ---- rows

  /** A row as reflection sees it; why is -4 when there is none such. */
  private Object row(int scheme, int row) {
    why = scheme(scheme) == null || row < 0 || row > 8 ? -4 : 0;
    if (why != 0 || row == 6) {
      return null;
    }
    if (row > 6) {
      return row == 7 ? "no row" : state.things;
    }
    return row < state.rows.get(scheme).length ? state.rows.get(scheme)[row] : null;
  }

  private boolean refusedBy(RuntimeException refusal) {
    why = refusal instanceof NullPointerException ? -3
        : refusal instanceof IllegalArgumentException ? -2 : -1;
    return false;
  }

  int length(int scheme, int row) {
    Object found = row(scheme, row);
    if (why != 0) {
      return why;
    }
    try {
      return Array.getLength(found);
    } catch (NullPointerException | IllegalArgumentException refusal) {
      refusedBy(refusal);
      return why;
    }
  }

  long read(int scheme, int row, int place, int kind) {
    Object found = row(scheme, row);
    why = kind < 0 || kind > 7 ? -4 : why;
    if (why != 0) {
      return NOTHING;
    }
    try {
      switch (kind) {
        case 0:
          return Array.getBoolean(found, place) ? 1 : 0;
        case 1:
          return Array.getByte(found, place);
        case 2:
          return Array.getChar(found, place);
        case 3:
          return Array.getShort(found, place);
        case 4:
          return Array.getInt(found, place);
        case 5:
          return Array.getLong(found, place);
        case 6:
          return Float.floatToIntBits(Array.getFloat(found, place));
        default:
          return Double.doubleToLongBits(Array.getDouble(found, place));
      }
    } catch (NullPointerException | IllegalArgumentException | ArrayIndexOutOfBoundsException refusal) {
      refusedBy(refusal);
      return NOTHING;
    }
  }

  private static int kindOf(Object thing) {
    return thing == null ? 10 : thing instanceof Own ? 9 : thing instanceof Boolean ? 0
        : thing instanceof Byte ? 1 : thing instanceof Character ? 2 : thing instanceof Short ? 3
        : thing instanceof Integer ? 4 : thing instanceof Long ? 5 : thing instanceof Float ? 6
        : thing instanceof Double ? 7 : 8;
  }

  private static long number(Object thing) {
    if (thing == null) {
      return 0;
    }
    if (thing instanceof Own own) {
      return own.number();
    }
    if (thing instanceof Boolean yes) {
      return yes ? 1 : 0;
    }
    if (thing instanceof Character sign) {
      return sign;
    }
    if (thing instanceof Float real) {
      return Float.floatToIntBits(real);
    }
    if (thing instanceof Double real) {
      return Double.doubleToLongBits(real);
    }
    return thing instanceof Number whole ? whole.longValue() : Checks.word((String) thing);
  }

  long get(int scheme, int row, int place, int what) {
    Object found = row(scheme, row);
    why = what < 0 || what > 1 ? -4 : why;
    if (why != 0) {
      return NOTHING;
    }
    try {
      Object thing = Array.get(found, place);
      return what == 0 ? kindOf(thing) : number(thing);
    } catch (NullPointerException | IllegalArgumentException | ArrayIndexOutOfBoundsException refusal) {
      refusedBy(refusal);
      return NOTHING;
    }
  }

  private static Object told(int kind, long v) {
    switch (kind) {
      case 0:
        return v != 0;
      case 6:
        return ((float) v) / 16f;
      case 7:
        return ((double) v) / 16.0;
      case 8:
        StringBuilder word = new StringBuilder();
        for (int group = 7; group >= 0; group--) {
          int letter = (int) (v >> 5 * group) & 31;
          if (letter > 0 && letter < 27) {
            word.append((char) ('a' + letter - 1));
          }
        }
        return word.toString();
      case 9:
        return new Own((int) v);
      case 10:
        return null;
      default:
        return cast(v, kind);
    }
  }

  private void keep() {
    past.addLast(state.like());
    if (past.size() > 20) {
      past.removeFirst();
    }
  }

  boolean write(int scheme, int row, int place, int kind, long v) {
    Object found = row(scheme, row);
    why = kind < 0 || kind > 7 ? -4 : why;
    if (why != 0) {
      return false;
    }
    State before = state.like();
    Object value = told(kind, v);
    try {
      switch (kind) {
        case 0 -> Array.setBoolean(found, place, (Boolean) value);
        case 1 -> Array.setByte(found, place, (Byte) value);
        case 2 -> Array.setChar(found, place, (Character) value);
        case 3 -> Array.setShort(found, place, (Short) value);
        case 4 -> Array.setInt(found, place, (Integer) value);
        case 5 -> Array.setLong(found, place, (Long) value);
        case 6 -> Array.setFloat(found, place, (Float) value);
        default -> Array.setDouble(found, place, (Double) value);
      }
    } catch (NullPointerException | IllegalArgumentException | ArrayIndexOutOfBoundsException refusal) {
      return refusedBy(refusal);
    }
    keepThis(before);
    return true;
  }

  private void keepThis(State before) {
    past.addLast(before);
    if (past.size() > 20) {
      past.removeFirst();
    }
  }

  boolean put(int scheme, int row, int place, int kind, long v) {
    Object found = row(scheme, row);
    why = kind < 0 || kind > 10 ? -4 : why;
    if (why != 0) {
      return false;
    }
    State before = state.like();
    try {
      Array.set(found, place, told(kind, v));
    } catch (NullPointerException refusal) {
      // An array of a primitive type answers nothing so, too; the document calls that a wrong kind.
      why = found == null ? -3 : -2;
      return false;
    } catch (IllegalArgumentException | ArrayIndexOutOfBoundsException refusal) {
      return refusedBy(refusal);
    }
    keepThis(before);
    return true;
  }

  int why() {
    return why;
  }

  private static Object value(Object thing) {
    return thing == null ? "" : thing;
  }

  long cell(int scheme, int field, int record, int cell) {
    Field found = fieldOf(scheme, field);
    if (found == null || !has(scheme, record) || cell < 0 || cell >= found.cells()) {
      return NOTHING;
    }
    return number(Array.get(state.rows.get(scheme)[field], record * found.cells() + cell));
  }

  private List<Object> record(int scheme, int record) {
    List<Object> values = new ArrayList<>();
    for (int i = 0; i < scheme(scheme).fields.size(); i++) {
      int cells = fieldOf(scheme, i).cells();
      for (int cell = 0; cell < cells; cell++) {
        values.add(value(Array.get(state.rows.get(scheme)[i], record * cells + cell)));
      }
    }
    return values;
  }

  private static long unlike(List<Object> one, List<Object> other) {
    long bits = 0;
    for (int i = 0; i < one.size(); i++) {
      bits |= one.get(i).equals(other.get(i)) ? 0 : 1L << i;
    }
    return bits;
  }

  long unlike(int scheme, int one, int other) {
    return has(scheme, one) && has(scheme, other) ? unlike(record(scheme, one), record(scheme, other)) : NOTHING;
  }

  // ---- records

  private void fillRecord(int scheme, int record, List<Object> values) {
    int next = 0;
    for (int i = 0; i < scheme(scheme).fields.size(); i++) {
      Field field = fieldOf(scheme, i);
      for (int cell = 0; cell < field.cells(); cell++) {
        Object value = values == null ? blank(field.kind()) : values.get(next++);
        Array.set(state.rows.get(scheme)[i], record * field.cells() + cell, value);
      }
    }
  }

  private static Object blank(int kind) {
    return told(kind, 0);
  }

  private void moveRecord(int scheme, int record, int to) {
    for (int i = 0; i < scheme(scheme).fields.size(); i++) {
      int cells = fieldOf(scheme, i).cells();
      Object row = state.rows.get(scheme)[i];
      System.arraycopy(row, record * cells, row, to * cells, cells);
    }
  }

  int make(int scheme) {
    if (scheme(scheme) == null || state.counts[scheme] == 8) {
      return refuse(2);
    }
    keep();
    fillRecord(scheme, state.counts[scheme], null);
    return state.counts[scheme]++;
  }

  int copy(int scheme, int record) {
    if (!has(scheme, record) || state.counts[scheme] == 8) {
      return refuse(2);
    }
    keep();
    moveRecord(scheme, record, state.counts[scheme]);
    return state.counts[scheme]++;
  }

  boolean drop(int scheme, int record) {
    if (!has(scheme, record)) {
      return refuse(2) != NONE;
    }
    keep();
    for (int i = record + 1; i < state.counts[scheme]; i++) {
      moveRecord(scheme, i, i - 1);
    }
    fillRecord(scheme, --state.counts[scheme], null);
    return true;
  }

  private int draw(int m) {
    x = (1103515245L * x + 12345L) % 2147483648L;
    return (int) (x / 64 % m);
  }

  int chance(int n) {
    if (n < 1 || n > 20 || schemes.isEmpty()) {
      return refuse(2);
    }
    keep();
    int made = 0;
    for (int i = 0; i < n; i++) {
      int scheme = draw(schemes.size());
      if (state.counts[scheme] < 8) {
        List<Object> values = new ArrayList<>();
        for (Field field : scheme(scheme).fields) {
          for (int cell = 0; cell < field.cells(); cell++) {
            values.add(told(field.kind(), draw(4000) - 2000));
          }
        }
        fillRecord(scheme, state.counts[scheme]++, values);
        made++;
      }
    }
    return made;
  }

  // ---- crossings

  private static Object cast(double v, int kind) {
    switch (kind) {
      case 1:
        return (byte) v;
      case 2:
        return (char) v;
      case 3:
        return (short) v;
      case 4:
        return (int) v;
      case 5:
        return (long) v;
      case 6:
        return (float) v;
      default:
        return v;
    }
  }

  private static Object cast(long v, int kind) {
    switch (kind) {
      case 1:
        return (byte) v;
      case 2:
        return (char) v;
      case 3:
        return (short) v;
      case 4:
        return (int) v;
      case 5:
        return v;
      case 6:
        return (float) v;
      default:
        return (double) v;
    }
  }

  private static long whole(Object value) {
    return value instanceof Character sign ? sign : ((Number) value).longValue();
  }

  /** A value as another kind. */
  static Object carried(Object value, int kind) {
    int own = kindOf(value);
    if (own == kind) {
      return value;
    }
    if (own == 8) {
      return ofWord((String) value, kind);
    }
    if (own == 0) {
      boolean yes = (Boolean) value;
      return kind == 8 ? (yes ? "b" : "a") : cast(yes ? 1L : 0L, kind);
    }
    if (kind == 0) {
      return value instanceof Character sign ? sign != 0 : ((Number) value).doubleValue() != 0;
    }
    if (kind == 8) {
      StringBuilder signs = new StringBuilder();
      for (char sign : Long.toString(whole(value)).toCharArray()) {
        signs.append(sign == '-' ? 'z' : (char) (sign - '0' + 'a'));
      }
      return signs.substring(Math.max(0, signs.length() - 8));
    }
    if (value instanceof Float real) {
      return cast((double) real, kind);
    }
    return value instanceof Double real ? cast((double) real, kind) : cast(whole(value), kind);
  }

  private static Object ofWord(String word, int kind) {
    if (kind == 0) {
      return !word.isEmpty();
    }
    String digits = "0" + word.replaceAll("[^a-j]", "").replace('a', '0').replace('b', '1').replace('c', '2')
        .replace('d', '3').replace('e', '4').replace('f', '5').replace('g', '6').replace('h', '7')
        .replace('i', '8').replace('j', '9');
    long whole = Long.parseLong(digits);
    return cast(word.startsWith("z") ? -whole : whole, kind);
  }

  private static double real(Object value) {
    return value instanceof Character sign ? sign : ((Number) value).doubleValue();
  }

  private static Object made(Rule rule, int kind, Object first, Object second) {
    if (rule.sort() == 4) {
      return rule.other();
    }
    if (rule.sort() == 0) {
      return first;
    }
    if (kind == 5) {
      long one = whole(first);
      long other = rule.sort() == 3 ? whole(second) : rule.other();
      return rule.sort() == 1 ? one * other : rule.sort() == 2 ? one / other : one + other;
    }
    double one = real(first);
    double other = rule.sort() == 3 ? real(second) : rule.other();
    double made = rule.sort() == 1 ? one * other : rule.sort() == 2 ? one / other : one + other;
    return made > 1e15 ? 1e15 : made < -1e15 ? -1e15 : made;
  }

  private static int start(Scheme scheme, int field) {
    return scheme.fields.subList(0, field).stream().mapToInt(Field::cells).sum();
  }

  /** The values made; the account stands in it then. */
  private List<Object> carry(Crossing crossing, List<Object> values, int[] account) {
    Scheme from = schemes.get(crossing.from);
    Scheme to = schemes.get(crossing.to);
    List<Object> result = new ArrayList<>();
    for (Field field : to.fields) {
      for (int i = 0; i < field.cells(); i++) {
        result.add(blank(field.kind()));
      }
    }
    BitSet read = new BitSet();
    BitSet filled = new BitSet();
    for (Rule rule : crossing.rules) {
      Field target = to.fields.get(rule.target());
      int made = madeKind(rule, from);
      for (int cell = 0; cell < target.cells(); cell++) {
        Object first = null;
        Object second = null;
        if (rule.sort() != 4) {
          if (cell >= from.fields.get(rule.first()).cells()
              || rule.sort() == 3 && cell >= from.fields.get(rule.other()).cells()) {
            continue;
          }
          read.set(start(from, rule.first()) + cell);
          first = values.get(start(from, rule.first()) + cell);
          if (rule.sort() == 3) {
            read.set(start(from, rule.other()) + cell);
            second = values.get(start(from, rule.other()) + cell);
          }
        }
        Object value = made(rule, made, first, second);
        Object carried = carried(value, target.kind());
        result.set(start(to, rule.target()) + cell, carried);
        filled.set(start(to, rule.target()) + cell);
        account[0]++;
        account[widens(made, target.kind()) == 1 ? 1 : carried(carried, made).equals(value) ? 2 : 3]++;
      }
    }
    account[4] = from.cells() - read.cardinality();
    account[5] = to.cells() - filled.cardinality();
    return result;
  }

  int cross(int crossing, int record) {
    Crossing found = crossingOf(crossing);
    if (found == null || !has(found.from, record) || state.counts[found.to] == 8) {
      return refuse(3);
    }
    keep();
    latest = new int[6];
    fillRecord(found.to, state.counts[found.to], carry(found, record(found.from, record), latest));
    return state.counts[found.to]++;
  }

  int account(int what) {
    return latest == null || what < 0 || what > 5 ? NONE : latest[what];
  }

  int would(int crossing, int record, int what) {
    Crossing found = crossingOf(crossing);
    if (found == null || !has(found.from, record) || what < 0 || what > 5) {
      return NONE;
    }
    int[] account = new int[6];
    carry(found, record(found.from, record), account);
    return account[what];
  }

  private boolean leadsBack(int crossing, int back) {
    Crossing there = crossingOf(crossing);
    Crossing home = crossingOf(back);
    return there != null && home != null && home.from == there.to && home.to == there.from;
  }

  long round(int crossing, int back, int record) {
    if (!leadsBack(crossing, back) || !has(crossingOf(crossing).from, record)) {
      return NOTHING;
    }
    List<Object> values = record(crossingOf(crossing).from, record);
    List<Object> there = carry(crossingOf(crossing), values, new int[6]);
    return unlike(values, carry(crossingOf(back), there, new int[6]));
  }

  int proved(int crossing, int back) {
    if (!leadsBack(crossing, back)) {
      return NONE;
    }
    Scheme first = schemes.get(crossingOf(crossing).from);
    Scheme second = schemes.get(crossingOf(crossing).to);
    int bits = 0;
    for (Rule rule : crossingOf(crossing).rules) {
      for (Rule home : crossingOf(back).rules) {
        if (rule.sort() == 0 && home.sort() == 0 && home.first() == rule.target() && home.target() == rule.first()) {
          Field one = first.fields.get(rule.first());
          Field other = second.fields.get(rule.target());
          int kinds = 10 * one.kind() + other.kind();
          boolean rounds = kinds == 46 || kinds == 56 || kinds == 57;
          if (widens(one.kind(), other.kind()) == 1 && !rounds && other.cells() >= one.cells()) {
            bits |= 1 << rule.first();
          }
        }
      }
    }
    return bits;
  }

  private void ways(int from, int to, List<Integer> done, List<List<Integer>> found) {
    if (from == to && !done.isEmpty()) {
      found.add(new ArrayList<>(done));
    }
    for (int i = 0; i < crossings.size() && done.size() < 3; i++) {
      if (crossings.get(i).from == from && !done.contains(i)) {
        done.add(i);
        ways(crossings.get(i).to, to, done, found);
        done.remove(Integer.valueOf(i));
      }
    }
  }

  /** The ways between two schemes, the shortest first. */
  private List<List<Integer>> ways(int from, int to) {
    List<List<Integer>> found = new ArrayList<>();
    if (scheme(from) != null && scheme(to) != null && from != to) {
      ways(from, to, new ArrayList<>(), found);
    }
    found.sort((one, other) -> one.size() != other.size() ? one.size() - other.size()
        : Arrays.compare(one.toArray(new Integer[0]), other.toArray(new Integer[0])));
    return found;
  }

  int way(int from, int to, int k) {
    List<List<Integer>> found = ways(from, to);
    if (found.isEmpty()) {
      return NONE;
    }
    return k == NONE ? found.get(0).size() : k >= 0 && k < found.get(0).size() ? found.get(0).get(k) : NONE;
  }

  int least(int from, int record, int to, int k) {
    if (!has(from, record)) {
      return NONE;
    }
    List<Integer> best = null;
    int fewest = Integer.MAX_VALUE;
    for (List<Integer> way : ways(from, to)) {
      List<Object> values = record(from, record);
      int lost = 0;
      for (int crossing : way) {
        int[] account = new int[6];
        values = carry(crossings.get(crossing), values, account);
        lost += account[3];
      }
      if (lost < fewest) {
        fewest = lost;
        best = way;
      }
    }
    if (best == null) {
      return NONE;
    }
    return k == NONE ? fewest : k >= 0 && k < best.size() ? best.get(k) : NONE;
  }

  int origins(int crossing, int record) {
    Crossing found = crossingOf(crossing);
    if (found == null || !has(found.to, record)) {
      return NONE;
    }
    int bits = 0;
    for (int i = 0; i < state.counts[found.from]; i++) {
      List<Object> carried = carry(found, record(found.from, i), new int[6]);
      bits |= carried.equals(record(found.to, record)) ? 1 << i : 0;
    }
    return bits;
  }

  int tells(int scheme, int what) {
    if (!has(scheme, 0) || what < 0 || what > 1) {
      return NONE;
    }
    int best = NONE;
    int fewest = 9;
    for (int field = 0; field < scheme(scheme).fields.size(); field++) {
      Map<List<Object>, Integer> groups = new HashMap<>();
      int begin = start(scheme(scheme), field);
      for (int i = 0; i < state.counts[scheme]; i++) {
        groups.merge(record(scheme, i).subList(begin, begin + fieldOf(scheme, field).cells()), 1, Integer::sum);
      }
      int most = groups.values().stream().max(Integer::compare).orElse(0);
      if (most < fewest) {
        fewest = most;
        best = field;
      }
    }
    return what == 0 ? best : fewest;
  }

  int idle(int scheme, int what) {
    if (scheme(scheme) == null || what < 0 || what > 1) {
      return NONE;
    }
    int bits = (1 << scheme(scheme).fields.size()) - 1;
    for (int i = 0; i < crossings.size(); i++) {
      if ((what == 0 ? crossings.get(i).to : crossings.get(i).from) == scheme) {
        bits &= ~crossing(i, what == 0 ? 4 : 3);
      }
    }
    return bits;
  }

  // ---- undone, refused

  boolean undo() {
    if (past.isEmpty()) {
      return refuse(4) != NONE;
    }
    state = Objects.requireNonNull(past.pollLast());
    return true;
  }

  boolean seed(int seed) {
    if (seed < 0) {
      return refuse(5) != NONE;
    }
    x = seed;
    return true;
  }

  int status(int what) {
    return what >= 0 && what < 6 ? refused[what] : NONE;
  }
}
