import java.util.Arrays;

/** Records carried over between schemes: what each call promises stands in ../shared/DOC.md. */
public final class RecordBridge {

  public static final int NONE = -1;
  public static final long NOTHING = -4611686018427387904L;

  private static final int TAPE_REFUSALS = 0;
  private static final int BOOK_REFUSALS = 1;
  private static final int RECORD_REFUSALS = 2;
  private static final int CROSS_REFUSALS = 3;
  private static final int UNDO_REFUSALS = 4;
  private static final int SEED_REFUSALS = 5;

  /** Why a place is refused; kinds and ROW_OF_THINGS are the sorts of rows that are there. */
  private static final int NO_PLACE = -1;
  private static final int WRONG_KIND = -2;
  private static final int NO_ROW = -3;
  private static final int NO_SUCH = -4;
  private static final int ROW_OF_THINGS = 9;

  private final Tape tape;
  private final BookReader reader;
  private final Rows rows;
  private final Carrier carrier;
  private final Ways ways;
  private final int[] refusals;
  private final int[] lastAccount;
  private final long[] values;
  private final long[] carried;
  private final long[] compared;
  private Plan plan;
  private boolean accounted;
  private int reason;
  private int drawn;

  public RecordBridge() {
    reader = new BookReader();
    tape = reader.tape;
    rows = new Rows();
    carrier = new Carrier();
    ways = new Ways();
    refusals = new int[6];
    lastAccount = new int[Carrier.ENTRIES];
    values = new long[Rows.WIDTH];
    carried = new long[Rows.WIDTH];
    compared = new long[Rows.WIDTH];
    plan = new Plan();
    drawn = 1;
  }

  // ---- the tape, the book

  public int feed(int a, int b, int c, int d, int e) {
    if (!tape.takes(20)) {
      refusals[TAPE_REFUSALS]++;
      return NONE;
    }
    tape.addNumber(a);
    tape.addNumber(b);
    tape.addNumber(c);
    tape.addNumber(d);
    tape.addNumber(e);
    return tape.count;
  }

  public boolean end(int n) {
    if (n < 0 || n > tape.count) {
      refusals[TAPE_REFUSALS]++;
      return false;
    }
    tape.count = n;
    return true;
  }

  public int book() {
    boolean good = reader.readBook();
    tape.count = 0;
    if (!good) {
      refusals[BOOK_REFUSALS]++;
      return NONE;
    }
    Plan old = plan;
    plan = reader.plan;
    reader.plan = old;
    rows.clear();
    accounted = false;
    return plan.shapeCount + plan.passageCount;
  }

  public int fault(int what) {
    return what == 0 ? reader.faultSort : what == 1 ? reader.faultPlace : NONE;
  }

  public int has(int what) {
    switch (what) {
      case 0:
        return plan.shapeCount;
      case 1:
        return plan.passageCount;
      case 2:
        return rows.countOf(0) + rows.countOf(1) + rows.countOf(2);
      case 3:
        return rows.kept;
      default:
        return hasOfScheme(what);
    }
  }

  private int hasOfScheme(int what) {
    if (what < 4 || what > 9) {
      return NONE;
    }
    int scheme = what < 7 ? what - 4 : what - 7;
    Shape shape = plan.shape(scheme);
    if (shape == null) {
      return NONE;
    }
    return what < 7 ? rows.countOf(scheme) : shape.fieldCount;
  }

  public int letter(int scheme, int field, int k) {
    Shape shape = plan.shape(scheme);
    if (shape == null || k < 0 || k >= Tape.NAME_LETTERS) {
      return NONE;
    }
    if (field == NONE) {
      return Tape.letterOf(shape.name, k);
    }
    return shape.hasField(field) ? Tape.letterOf(shape.names[field], k) : NONE;
  }

  public int named(int scheme) {
    int name = tape.wholeName();
    tape.count = 0;
    if (name == Tape.NO_NAME) {
      return NONE;
    }
    if (scheme == NONE) {
      return plan.shapeOfName(name);
    }
    Shape shape = plan.shape(scheme);
    return shape == null ? NONE : shape.fieldOfName(name);
  }

  public int field(int scheme, int field, int what) {
    Shape shape = plan.shape(scheme);
    if (shape == null || !shape.hasField(field)) {
      return NONE;
    }
    return what == 0 ? shape.kinds[field] : what == 1 ? shape.cells[field] : NONE;
  }

  public int crossing(int crossing, int what) {
    Passage passage = plan.passage(crossing);
    if (passage == null) {
      return NONE;
    }
    switch (what) {
      case 0:
        return passage.from;
      case 1:
        return passage.to;
      case 2:
        return passage.ruleCount;
      case 3:
        return passage.fieldsRead();
      case 4:
        return passage.fieldsFilled();
      default:
        return NONE;
    }
  }

  public int rule(int crossing, int rule, int what) {
    Passage passage = plan.passage(crossing);
    Rule found = passage == null ? null : passage.ruleAt(rule);
    if (found == null) {
      return NONE;
    }
    switch (what) {
      case 0:
        return found.target;
      case 1:
        return found.sort;
      case 2:
        return found.first;
      case 3:
        return found.other;
      case 4:
        return found.fits ? 1 : 0;
      default:
        return NONE;
    }
  }

  public int widens(int from, int to) {
    if (from < Kinds.BIT || from > Kinds.WORD || to < Kinds.BIT || to > Kinds.WORD) {
      return NONE;
    }
    return Kinds.goesInto(from, to) ? 1 : 0;
  }

  // ---- rows

  public int length(int scheme, int row) {
    int sort = rowSort(scheme, row);
    reason = sort < 0 ? sort : 0;
    return sort < 0 ? sort : placesOf(scheme, row, sort);
  }

  public long read(int scheme, int row, int place, int kind) {
    int sort = rowSort(scheme, row);
    reason = kindRefusal(scheme, row, place, kind);
    if (reason == 0 && !Kinds.goesInto(sort, kind)) {
      reason = WRONG_KIND;
    }
    Shape shape = plan.shape(scheme);
    if (reason != 0 || shape == null) {
      return NOTHING;
    }
    return Kinds.changed(sort, rows.valueAt(scheme, shape, row, place), kind);
  }

  public long get(int scheme, int row, int place, int what) {
    int sort = rowSort(scheme, row);
    if (what < 0 || what > 1) {
      reason = NO_SUCH;
    } else if (sort < 0) {
      reason = sort;
    } else {
      reason = place < 0 || place >= placesOf(scheme, row, sort) ? NO_PLACE : 0;
    }
    Shape shape = plan.shape(scheme);
    if (reason != 0 || shape == null) {
      return NOTHING;
    }
    if (sort == ROW_OF_THINGS) {
      return what == 0 ? rows.thingKind(place) : rows.thingValue(place);
    }
    boolean empty = rows.isEmptyAt(scheme, shape, row, place);
    if (what == 0) {
      return empty ? Kinds.EMPTY : sort;
    }
    return rows.valueAt(scheme, shape, row, place);
  }

  public boolean write(int scheme, int row, int place, int kind, long v) {
    int sort = rowSort(scheme, row);
    reason = kindRefusal(scheme, row, place, kind);
    if (reason == 0 && !Kinds.goesInto(kind, sort)) {
      reason = WRONG_KIND;
    }
    Shape shape = plan.shape(scheme);
    if (reason != 0 || shape == null) {
      return false;
    }
    rows.keepPast();
    rows.setAt(scheme, shape, row, place, Kinds.changed(kind, Kinds.told(kind, v), sort));
    return true;
  }

  public boolean put(int scheme, int row, int place, int kind, long v) {
    int sort = rowSort(scheme, row);
    reason = thingRefusal(scheme, row, place, kind);
    Shape shape = plan.shape(scheme);
    if (reason != 0 || shape == null) {
      return false;
    }
    rows.keepPast();
    if (sort == ROW_OF_THINGS) {
      rows.setThing(place, kind, Kinds.told(kind, v));
    } else if (kind == Kinds.EMPTY) {
      rows.setAt(scheme, shape, row, place, Rows.EMPTY_WORD);
    } else {
      rows.setAt(scheme, shape, row, place, Kinds.changed(kind, Kinds.told(kind, v), sort));
    }
    return true;
  }

  public int why() {
    return reason;
  }

  public long cell(int scheme, int field, int record, int cell) {
    Shape shape = plan.shape(scheme);
    if (shape == null || !shape.hasField(field) || !rows.hasRecord(scheme, record)) {
      return NOTHING;
    }
    if (cell < 0 || cell >= shape.cells[field]) {
      return NOTHING;
    }
    return rows.valueAt(scheme, shape, field, record * shape.cells[field] + cell);
  }

  public long unlike(int scheme, int one, int other) {
    Shape shape = plan.shape(scheme);
    if (shape == null || !rows.hasRecord(scheme, one) || !rows.hasRecord(scheme, other)) {
      return NOTHING;
    }
    rows.takeValues(scheme, shape, one, values);
    rows.takeValues(scheme, shape, other, compared);
    return differing(values, compared);
  }

  /** What a row is: a kind, ROW_OF_THINGS, or by what all of it is refused. */
  private int rowSort(int scheme, int row) {
    Shape shape = plan.shape(scheme);
    if (shape == null || row < 0 || row > 8) {
      return NO_SUCH;
    }
    if (row == 8) {
      return ROW_OF_THINGS;
    }
    if (row == 7) {
      return WRONG_KIND;
    }
    return shape.hasField(row) ? shape.kinds[row] : NO_ROW;
  }

  private int placesOf(int scheme, int row, int sort) {
    if (sort == ROW_OF_THINGS) {
      return Rows.THINGS;
    }
    Shape shape = plan.shape(scheme);
    return shape != null && shape.hasField(row) ? Rows.RECORDS * shape.cells[row] : 0;
  }

  /** By what a place is refused where a kind 0 .. 7 is asked or told, but for widening. */
  private int kindRefusal(int scheme, int row, int place, int kind) {
    if (kind < Kinds.BIT || kind > Kinds.DOUBLE) {
      return NO_SUCH;
    }
    int sort = rowSort(scheme, row);
    if (sort < 0) {
      return sort;
    }
    if (sort > Kinds.DOUBLE) {
      return WRONG_KIND;
    }
    return place < 0 || place >= placesOf(scheme, row, sort) ? NO_PLACE : 0;
  }

  private int thingRefusal(int scheme, int row, int place, int kind) {
    if (kind < Kinds.BIT || kind > Kinds.EMPTY) {
      return NO_SUCH;
    }
    int sort = rowSort(scheme, row);
    if (sort < 0) {
      return sort;
    }
    if (sort <= Kinds.DOUBLE && kind == Kinds.EMPTY) {
      return WRONG_KIND;
    }
    if (place < 0 || place >= placesOf(scheme, row, sort)) {
      return NO_PLACE;
    }
    return takesThing(sort, kind) ? 0 : WRONG_KIND;
  }

  private static boolean takesThing(int sort, int kind) {
    if (sort == ROW_OF_THINGS) {
      return true;
    }
    if (sort == Kinds.WORD) {
      return kind == Kinds.WORD || kind == Kinds.EMPTY;
    }
    return Kinds.goesInto(kind, sort);
  }

  /** The places at which two records' values are unlike, as bits. */
  private static long differing(long[] one, long[] other) {
    long bits = 0;
    for (int i = 0; i < one.length && i < other.length; i++) {
      if (one[i] != other[i]) {
        bits |= 1L << i;
      }
    }
    return bits;
  }

  // ---- records

  public int make(int scheme) {
    if (plan.shape(scheme) == null || !rows.hasRoom(scheme)) {
      refusals[RECORD_REFUSALS]++;
      return NONE;
    }
    rows.keepPast();
    return rows.addBlank(scheme);
  }

  public int copy(int scheme, int record) {
    if (plan.shape(scheme) == null || !rows.hasRecord(scheme, record) || !rows.hasRoom(scheme)) {
      refusals[RECORD_REFUSALS]++;
      return NONE;
    }
    rows.keepPast();
    return rows.addLike(scheme, record);
  }

  public boolean drop(int scheme, int record) {
    if (plan.shape(scheme) == null || !rows.hasRecord(scheme, record)) {
      refusals[RECORD_REFUSALS]++;
      return false;
    }
    rows.keepPast();
    rows.remove(scheme, record);
    return true;
  }

  public int chance(int n) {
    if (n < 1 || n > 20 || plan.shapeCount == 0) {
      refusals[RECORD_REFUSALS]++;
      return NONE;
    }
    rows.keepPast();
    int made = 0;
    for (int i = 0; i < n; i++) {
      if (makeByChance()) {
        made++;
      }
    }
    return made;
  }

  private boolean makeByChance() {
    int scheme = draw(plan.shapeCount);
    Shape shape = plan.shape(scheme);
    if (shape == null || !rows.hasRoom(scheme)) {
      return false;
    }
    int record = rows.addBlank(scheme);
    for (int field = 0; field < shape.fieldCount; field++) {
      if (shape.hasField(field)) {
        int kind = shape.kinds[field];
        int cells = shape.cells[field];
        for (int cell = 0; cell < cells; cell++) {
          long value = Kinds.told(kind, draw(4000) - 2000);
          rows.setAt(scheme, shape, field, record * cells + cell, value);
        }
      }
    }
    return true;
  }

  private int draw(int m) {
    drawn = (int) ((1103515245L * drawn + 12345L) & 2147483647L);
    return m < 1 ? 0 : drawn / 64 % m;
  }

  // ---- crossings

  public int cross(int crossing, int record) {
    Passage passage = plan.passage(crossing);
    if (passage == null || !rows.hasRecord(passage.from, record) || !rows.hasRoom(passage.to)) {
      refusals[CROSS_REFUSALS]++;
      return NONE;
    }
    rows.keepPast();
    carryRecord(passage, record);
    int made = rows.addBlank(passage.to);
    rows.setValues(passage.to, made, carried);
    System.arraycopy(carrier.account, 0, lastAccount, 0, Carrier.ENTRIES);
    accounted = true;
    return made;
  }

  public int account(int what) {
    return accounted && what >= 0 && what < Carrier.ENTRIES ? lastAccount[what] : NONE;
  }

  public int would(int crossing, int record, int what) {
    Passage passage = plan.passage(crossing);
    if (passage == null || !rows.hasRecord(passage.from, record)) {
      return NONE;
    }
    if (what < 0 || what >= Carrier.ENTRIES) {
      return NONE;
    }
    carryRecord(passage, record);
    return carrier.account[what];
  }

  public long round(int crossing, int back, int record) {
    Passage there = plan.passage(crossing);
    Passage home = plan.passage(back);
    if (there == null || home == null || !home.leadsBack(there)) {
      return NOTHING;
    }
    if (!rows.hasRecord(there.from, record)) {
      return NOTHING;
    }
    carryRecord(there, record);
    carrier.carry(plan, home, carried, compared);
    return differing(values, compared);
  }

  public int proved(int crossing, int back) {
    Passage there = plan.passage(crossing);
    Passage home = plan.passage(back);
    if (there == null || home == null || !home.leadsBack(there)) {
      return NONE;
    }
    Shape from = plan.shape(there.from);
    Shape to = plan.shape(there.to);
    if (from == null || to == null) {
      return NONE;
    }
    return there.fieldsKeptWhole(home, from, to);
  }

  public int way(int from, int to, int k) {
    if (plan.shape(from) == null || plan.shape(to) == null || from == to) {
      return NONE;
    }
    if (!ways.findShortest(plan, from, to)) {
      return NONE;
    }
    return k == NONE ? ways.bestCount : ways.stepAt(k);
  }

  public int least(int from, int record, int to, int k) {
    Shape shape = plan.shape(from);
    if (shape == null || plan.shape(to) == null || from == to || !rows.hasRecord(from, record)) {
      return NONE;
    }
    rows.takeValues(from, shape, record, values);
    if (!ways.findLeast(plan, from, to, values, carrier)) {
      return NONE;
    }
    return k == NONE ? ways.leastLost : ways.stepAt(k);
  }

  public int origins(int crossing, int record) {
    Passage passage = plan.passage(crossing);
    if (passage == null || !rows.hasRecord(passage.to, record)) {
      return NONE;
    }
    Shape to = plan.shape(passage.to);
    if (to == null) {
      return NONE;
    }
    rows.takeValues(passage.to, to, record, compared);
    int found = 0;
    for (int one = 0; one < rows.countOf(passage.from); one++) {
      carryRecord(passage, one);
      if (differing(carried, compared) == 0) {
        found |= 1 << one;
      }
    }
    return found;
  }

  public int tells(int scheme, int what) {
    Shape shape = plan.shape(scheme);
    if (shape == null || rows.countOf(scheme) == 0 || what < 0 || what > 1) {
      return NONE;
    }
    int telling = NONE;
    int fewest = Rows.RECORDS + 1;
    for (int field = 0; field < shape.fieldCount; field++) {
      int most = rows.mostAlike(scheme, shape, field);
      if (most < fewest) {
        telling = field;
        fewest = most;
      }
    }
    return what == 0 ? telling : fewest;
  }

  public int idle(int scheme, int what) {
    Shape shape = plan.shape(scheme);
    if (shape == null || what < 0 || what > 1) {
      return NONE;
    }
    int busy = 0;
    for (int i = 0; i < plan.passageCount; i++) {
      Passage passage = plan.passage(i);
      if (passage != null && what == 0 && passage.to == scheme) {
        busy |= passage.fieldsFilled();
      }
      if (passage != null && what == 1 && passage.from == scheme) {
        busy |= passage.fieldsRead();
      }
    }
    return ((1 << shape.fieldCount) - 1) & ~busy;
  }

  /** Tries a crossing of a record that is there: its values stand in values then, those made in carried. */
  private void carryRecord(Passage passage, int record) {
    Shape from = plan.shape(passage.from);
    if (from != null) {
      rows.takeValues(passage.from, from, record, values);
      carrier.carry(plan, passage, values, carried);
    }
  }

  // ---- undone, refused

  public boolean undo() {
    if (!rows.goBack()) {
      refusals[UNDO_REFUSALS]++;
      return false;
    }
    return true;
  }

  public boolean seed(int seed) {
    if (seed < 0) {
      refusals[SEED_REFUSALS]++;
      return false;
    }
    drawn = seed;
    return true;
  }

  public int status(int what) {
    return what >= 0 && what < refusals.length ? refusals[what] : NONE;
  }

  // ---- the parts

  /** The bytes that are fed, until a book or a name takes them. */
  private static final class Tape {
    static final int NAME_LETTERS = 6;
    static final int NO_NAME = 0;
    static final int MOST = 1600;

    final int[] bytes = new int[MOST];
    int count;

    boolean takes(int more) {
      return count + more <= MOST;
    }

    void addNumber(int number) {
      for (int shift = 24; shift >= 0; shift -= 8) {
        if (count >= 0 && count < MOST) {
          bytes[count] = (number >>> shift) & 255;
          count++;
        }
      }
    }

    /** The byte at a place; -1, which is no byte, where the tape has none. */
    int byteAt(int place) {
      return place >= 0 && place < count && place < MOST ? bytes[place] : -1;
    }

    boolean isLetter(int place) {
      int sign = byteAt(place);
      return sign >= 'a' && sign <= 'z';
    }

    boolean isDigit(int place) {
      int sign = byteAt(place);
      return sign >= '0' && sign <= '9';
    }

    boolean isBlank(int place) {
      int sign = byteAt(place);
      return sign == 10 || sign == 32;
    }

    /** How many letters stand side by side from a place on. */
    int lettersFrom(int place) {
      int letters = 0;
      while (letters < MOST && isLetter(place + letters)) {
        letters++;
      }
      return letters;
    }

    int digitsFrom(int place) {
      int digits = 0;
      while (digits < MOST && isDigit(place + digits)) {
        digits++;
      }
      return digits;
    }

    /** The number that some digits from a place on tell. */
    int numberFrom(int place, int digits) {
      int number = 0;
      for (int i = 0; i < digits && isDigit(place + i); i++) {
        number = 10 * number + byteAt(place + i) - '0';
      }
      return number;
    }

    /** The first six letters from a place on as one number: five bits each, the first the highest. */
    int nameFrom(int place) {
      int name = NO_NAME;
      for (int i = 0; i < NAME_LETTERS && isLetter(place + i); i++) {
        name = withLetter(name, i, byteAt(place + i) - 'a' + 1);
      }
      return name;
    }

    /** The name that is all of the tape. */
    int wholeName() {
      return count <= NAME_LETTERS && lettersFrom(0) == count ? nameFrom(0) : NO_NAME;
    }

    static int withLetter(int name, int k, int letter) {
      return name | letter << 5 * (NAME_LETTERS - 1 - k);
    }

    static int letterOf(int name, int k) {
      return name >> 5 * (NAME_LETTERS - 1 - k) & 31;
    }
  }

  /** The kinds of values, each value told as a number: how one is made of another. */
  private static final class Kinds {
    static final int BIT = 0;
    static final int BYTE = 1;
    static final int CHAR = 2;
    static final int SHORT = 3;
    static final int INT = 4;
    static final int LONG = 5;
    static final int FLOAT = 6;
    static final int DOUBLE = 7;
    static final int WORD = 8;
    static final int OWN = 9;
    static final int EMPTY = 10;

    private static final int WORD_LETTERS = 8;
    private static final int MINUS_LETTER = 26;

    static boolean isNumber(int kind) {
      return kind >= BYTE && kind <= DOUBLE;
    }

    static boolean isReal(int kind) {
      return kind == FLOAT || kind == DOUBLE;
    }

    /** Whether a kind widens to another one. */
    static boolean goesInto(int kind, int other) {
      if (kind == other) {
        return true;
      }
      if (other > DOUBLE) {
        return false;
      }
      switch (kind) {
        case BYTE:
          return other >= SHORT;
        case CHAR:
        case SHORT:
          return other >= INT;
        case INT:
        case LONG:
        case FLOAT:
          return other > kind;
        default:
          return false;
      }
    }

    /** Whether a kind widens to another one without rounding. */
    static boolean goesWholeInto(int kind, int other) {
      if (kind == INT && other == FLOAT || kind == LONG && other == FLOAT) {
        return false;
      }
      return goesInto(kind, other) && !(kind == LONG && other == DOUBLE);
    }

    /** The value of a kind that a number from outside tells. */
    static long told(int kind, long v) {
      switch (kind) {
        case FLOAT:
          return Reals.toBits((float) v / 16, FLOAT);
        case DOUBLE:
          return Reals.toBits((double) v / 16, DOUBLE);
        case WORD:
          return toldWord(v);
        case OWN:
          return (int) v;
        case EMPTY:
          return 0;
        default:
          return ofWhole(v, kind);
      }
    }

    private static long toldWord(long v) {
      long word = 0;
      for (int shift = 35; shift >= 0; shift -= 5) {
        long letter = v >>> shift & 31;
        if (letter >= 1 && letter <= 26) {
          word = word << 5 | letter;
        }
      }
      return word;
    }

    /** A value of a kind widened or narrowed to another kind. */
    static long changed(int kind, long value, int other) {
      if (kind == other) {
        return value;
      }
      if (kind == BIT && other == WORD) {
        return value + 1;
      }
      if (isReal(kind)) {
        return ofReal(Reals.fromBits(value, kind), other);
      }
      if (kind == WORD) {
        return other == BIT ? ofWhole(value, BIT) : ofWhole(wholeOfWord(value), other);
      }
      return ofWhole(value, other);
    }

    static double realOf(int kind, long value) {
      return isReal(kind) ? Reals.fromBits(value, kind) : (double) value;
    }

    private static long wholeOfWord(long word) {
      long whole = 0;
      boolean begun = false;
      boolean below = false;
      for (int shift = 35; shift >= 0; shift -= 5) {
        long letter = word >>> shift & 31;
        if (letter != 0 && !begun) {
          begun = true;
          below = letter == MINUS_LETTER;
        }
        if (letter >= 1 && letter <= 10) {
          whole = 10 * whole + letter - 1;
        }
      }
      return below ? -whole : whole;
    }

    /** The last eight signs of a whole number, as letters. */
    private static long digitsWord(long whole) {
      long word = 0;
      long rest = whole;
      int signs = 0;
      do {
        long digit = rest % 10;
        word |= (digit < 0 ? -digit : digit) + 1 << 5 * signs;
        rest /= 10;
        signs++;
      } while (signs < WORD_LETTERS && rest != 0);
      if (whole < 0 && signs < WORD_LETTERS) {
        word |= (long) MINUS_LETTER << 5 * signs;
      }
      return word;
    }

    private static long ofWhole(long whole, int kind) {
      switch (kind) {
        case BIT:
          return whole != 0 ? 1 : 0;
        case BYTE:
          return (byte) whole;
        case CHAR:
          return (char) whole;
        case SHORT:
          return (short) whole;
        case INT:
          return (int) whole;
        case FLOAT:
          return Reals.toBits((float) whole, FLOAT);
        case DOUBLE:
          return Reals.toBits((double) whole, DOUBLE);
        case WORD:
          return digitsWord(whole);
        default:
          return whole;
      }
    }

    private static long ofReal(double real, int kind) {
      switch (kind) {
        case BIT:
          return real != 0 ? 1 : 0;
        case BYTE:
          return (byte) real;
        case CHAR:
          return (char) real;
        case SHORT:
          return (short) real;
        case INT:
          return (int) real;
        case FLOAT:
          return Reals.toBits((float) real, FLOAT);
        case DOUBLE:
          return Reals.toBits(real, DOUBLE);
        case WORD:
          return digitsWord((long) real);
        default:
          return (long) real;
      }
    }
  }

  /** Floats and doubles to and from their bits, by arithmetic alone: the language has no other way. */
  private static final class Reals {
    private static final int FLOAT_PLACES = 23;
    private static final int FLOAT_BIAS = 127;
    private static final int DOUBLE_PLACES = 52;
    private static final int DOUBLE_BIAS = 1023;

    static long toBits(double real, int kind) {
      int bias = kind == Kinds.FLOAT ? FLOAT_BIAS : DOUBLE_BIAS;
      int places = kind == Kinds.FLOAT ? FLOAT_PLACES : DOUBLE_PLACES;
      double part = real < 0 ? -real : real;
      int power = 0;
      for (; power < bias && part >= 2; power++) {
        part = part / 2;
      }
      for (; power > 1 - bias && part > 0 && part < 1; power--) {
        part = part * 2;
      }
      long one = 1L << places;
      long bits = (long) (part * (double) one);
      if (part >= 1) {
        bits += (power + bias - 1) * one;
      }
      // A zero below zero shows itself by its quotient alone.
      if (real < 0 || real == 0 && 1.0 / real < 0) {
        bits |= kind == Kinds.FLOAT ? -1L << 31 : -1L << 63;
      }
      return bits;
    }

    static double fromBits(long bits, int kind) {
      int bias = kind == Kinds.FLOAT ? FLOAT_BIAS : DOUBLE_BIAS;
      int places = kind == Kinds.FLOAT ? FLOAT_PLACES : DOUBLE_PLACES;
      long one = 1L << places;
      long fraction = bits & one - 1;
      int told = (int) (bits >> places) & 2 * bias + 1;
      double real = (double) (told == 0 ? fraction : fraction + one);
      int power = (told == 0 ? 1 : told) - bias - places;
      for (int i = 0; i < 2 * bias && i < power; i++) {
        real = real * 2;
      }
      for (int i = 0; i < 2 * bias && i < -power; i++) {
        real = real / 2;
      }
      return bits < 0 ? -real : real;
    }
  }

  /** A scheme: its fields, and where the cells of each begin in a record. */
  private static final class Shape {
    static final int MOST = 6;

    final int[] names = new int[MOST];
    final int[] kinds = new int[MOST];
    final int[] cells = new int[MOST];
    final int[] starts = new int[MOST];
    int name;
    int fieldCount;
    int cellCount;

    void begin(int newName) {
      name = newName;
      fieldCount = 0;
      cellCount = 0;
    }

    /** One more field, of one cell. */
    void addField(int fieldName, int kind) {
      if (fieldCount >= 0 && fieldCount < MOST) {
        names[fieldCount] = fieldName;
        kinds[fieldCount] = kind;
        cells[fieldCount] = 1;
        starts[fieldCount] = cellCount;
        fieldCount++;
        cellCount++;
      }
    }

    /** The field that was added last has more cells. */
    void repeatLast(int times) {
      if (hasField(fieldCount - 1)) {
        cells[fieldCount - 1] = times;
        cellCount = starts[fieldCount - 1] + times;
      }
    }

    boolean hasField(int field) {
      return field >= 0 && field < fieldCount && field < MOST;
    }

    int kindOf(int field) {
      return hasField(field) ? kinds[field] : NONE;
    }

    boolean hasWords(int field) {
      return kindOf(field) == Kinds.WORD;
    }

    int fieldOfName(int fieldName) {
      for (int i = 0; i < fieldCount && i < MOST; i++) {
        if (names[i] == fieldName) {
          return i;
        }
      }
      return NONE;
    }
  }

  /** A rule of a crossing: what it reads, and what follows from that for the two schemes. */
  private static final class Rule {
    static final int ALONE = 0;
    static final int BY = 1;
    static final int OVER = 2;
    static final int PLUS = 3;
    static final int NUMBER = 4;

    int target;
    int sort;
    int first;
    int other;
    int made;
    int cells;
    int cellsRead;
    boolean fits;

    void set(int newTarget, int newSort, int newFirst, int newOther) {
      target = newTarget;
      sort = newSort;
      first = newFirst;
      other = newOther;
    }

    void settle(Shape from, Shape to) {
      int fields = fieldsRead();
      cells = to.hasField(target) ? to.cells[target] : 0;
      made = sort == NUMBER ? Kinds.INT : Kinds.LONG;
      for (int i = 0; i < from.fieldCount; i++) {
        if ((fields >> i & 1) != 0 && from.hasField(i)) {
          cells = Math.min(cells, from.cells[i]);
          made = Kinds.isReal(from.kinds[i]) ? Kinds.DOUBLE : made;
        }
      }
      if (sort == ALONE && from.hasField(first)) {
        made = from.kinds[first];
      }
      fits = to.hasField(target) && Kinds.goesInto(made, to.kinds[target]);
      cellsRead = 0;
      for (int i = 0; i < from.fieldCount; i++) {
        if ((fields >> i & 1) != 0 && from.hasField(i)) {
          cellsRead |= (1 << cells) - 1 << from.starts[i];
        }
      }
    }

    int fieldsRead() {
      if (sort == NUMBER) {
        return 0;
      }
      return sort == PLUS ? 1 << first | 1 << other : 1 << first;
    }

    boolean isAlone(int source, int into) {
      return sort == ALONE && first == source && target == into;
    }
  }

  /** A crossing: from which scheme to which, by which rules. */
  private static final class Passage {
    static final int MOST = 6;

    final Rule[] rules = new Rule[MOST];
    int from;
    int to;
    int ruleCount;

    Passage() {
      for (int i = 0; i < MOST; i++) {
        rules[i] = new Rule();
      }
    }

    void begin(int newFrom, int newTo) {
      from = newFrom;
      to = newTo;
      ruleCount = 0;
    }

    Rule ruleAt(int rule) {
      return rule >= 0 && rule < ruleCount && rule < MOST ? rules[rule] : null;
    }

    /** The next rule, still to be set; null when there are six. */
    Rule addRule() {
      ruleCount = ruleCount < MOST ? ruleCount + 1 : MOST;
      return ruleAt(ruleCount - 1);
    }

    int fieldsRead() {
      int bits = 0;
      for (int i = 0; i < ruleCount; i++) {
        Rule rule = ruleAt(i);
        bits |= rule == null ? 0 : rule.fieldsRead();
      }
      return bits;
    }

    int fieldsFilled() {
      int bits = 0;
      for (int i = 0; i < ruleCount; i++) {
        Rule rule = ruleAt(i);
        bits |= rule == null ? 0 : 1 << rule.target;
      }
      return bits;
    }

    boolean leadsBack(Passage there) {
      return from == there.to && to == there.from;
    }

    /** The fields of the first scheme that come back whole by this crossing and another one, proved by kinds. */
    int fieldsKeptWhole(Passage home, Shape first, Shape second) {
      int bits = 0;
      for (int i = 0; i < ruleCount; i++) {
        Rule rule = ruleAt(i);
        if (rule != null && rule.sort == Rule.ALONE && keepsWhole(rule, first, second)
            && home.carriesAlone(rule.target, rule.first)) {
          bits |= 1 << rule.first;
        }
      }
      return bits;
    }

    private static boolean keepsWhole(Rule rule, Shape first, Shape second) {
      return first.hasField(rule.first) && second.hasField(rule.target)
          && Kinds.goesWholeInto(first.kinds[rule.first], second.kinds[rule.target])
          && second.cells[rule.target] >= first.cells[rule.first];
    }

    private boolean carriesAlone(int source, int into) {
      for (int i = 0; i < ruleCount; i++) {
        Rule rule = ruleAt(i);
        if (rule != null && rule.isAlone(source, into)) {
          return true;
        }
      }
      return false;
    }
  }

  /** What a book tells: schemes and crossings. */
  private static final class Plan {
    static final int SHAPES = 3;
    static final int PASSAGES = 4;

    private final Shape[] shapes = new Shape[SHAPES];
    private final Passage[] passages = new Passage[PASSAGES];
    int shapeCount;
    int passageCount;

    Plan() {
      for (int i = 0; i < SHAPES; i++) {
        shapes[i] = new Shape();
      }
      for (int i = 0; i < PASSAGES; i++) {
        passages[i] = new Passage();
      }
    }

    void clear() {
      shapeCount = 0;
      passageCount = 0;
    }

    Shape shape(int scheme) {
      return scheme >= 0 && scheme < shapeCount && scheme < SHAPES ? shapes[scheme] : null;
    }

    Passage passage(int crossing) {
      boolean there = crossing >= 0 && crossing < passageCount && crossing < PASSAGES;
      return there ? passages[crossing] : null;
    }

    /** The next scheme; null when there are three. */
    Shape addShape(int name) {
      if (shapeCount >= SHAPES) {
        return null;
      }
      shapeCount++;
      Shape shape = shape(shapeCount - 1);
      if (shape != null) {
        shape.begin(name);
      }
      return shape;
    }

    /** The next crossing; null when there are four. */
    Passage addPassage(int from, int to) {
      if (passageCount >= PASSAGES) {
        return null;
      }
      passageCount++;
      Passage passage = passage(passageCount - 1);
      if (passage != null) {
        passage.begin(from, to);
      }
      return passage;
    }

    int shapeOfName(int name) {
      for (int i = 0; i < shapeCount; i++) {
        Shape shape = shape(i);
        if (shape != null && shape.name == name) {
          return i;
        }
      }
      return NONE;
    }
  }

  /**
   * Reads a book from the tape, up to its first fault: word by word, each taken as the state allows it, since
   * what goes on with a text hangs on no more than that.
   */
  private static final class BookReader {
    private static final String OWN_WORDS =
        "bit byte char short int long float double word scheme times cross to from by over plus ";
    private static final int OWN_COUNT = 17;
    /** Places among the own words; ahead of these stand the kinds, each at its number. */
    private static final int SCHEME = 9;
    private static final int TIMES = 10;
    private static final int CROSS = 11;
    private static final int TO = 12;
    private static final int FROM = 13;
    private static final int BY = 14;
    private static final int OVER = 15;
    private static final int PLUS = 16;

    private static final int NO_TEXT = 1;
    private static final int NO_NUMBER = 2;
    private static final int WRONG_NAME = 3;
    private static final int WRONG_FIELD = 4;
    private static final int ONE_TOO_MANY = 5;

    /** The states: what is asked next. */
    private static final int ASK_STATEMENT = 0;
    private static final int ASK_SCHEME_NAME = 1;
    private static final int ASK_KIND = 2;
    private static final int ASK_FIELD_NAME = 3;
    private static final int ASK_TIMES_OR_SIGN = 4;
    private static final int ASK_TIMES_NUMBER = 5;
    private static final int ASK_FIELD_SIGN = 6;
    private static final int ASK_FIRST_SCHEME = 7;
    private static final int ASK_TO = 8;
    private static final int ASK_SECOND_SCHEME = 9;
    private static final int ASK_TARGET = 10;
    private static final int ASK_FROM = 11;
    private static final int ASK_SOURCE = 12;
    private static final int ASK_SORT_OR_SIGN = 13;
    private static final int ASK_FACTOR = 14;
    private static final int ASK_SECOND_FIELD = 15;
    private static final int ASK_RULE_SIGN = 16;

    private static final int NUMBER_DIGITS = 3;

    private final int[] ownWords = new int[OWN_COUNT];
    final Tape tape = new Tape();
    Plan plan = new Plan();
    private int state;
    private int at;
    /** What stands next: how many letters, as a name, as an own word; how many digits, the first three as a number. */
    private int letters;
    private int word;
    private int ownWord;
    private int digits;
    private int number;
    /** What is being read: a scheme, a field's kind; a crossing, its schemes, a rule, its target. */
    private Shape shape = new Shape();
    private int kind;
    private Passage passage = new Passage();
    private int from;
    private Shape first = new Shape();
    private Shape second = new Shape();
    private Rule rule = new Rule();
    private int target;
    int faultSort;
    int faultPlace = NONE;

    BookReader() {
      int own = 0;
      int letter = 0;
      for (int i = 0; i < OWN_WORDS.length(); i++) {
        char sign = OWN_WORDS.charAt(i);
        if (sign == ' ') {
          own++;
          letter = 0;
        } else if (own < OWN_COUNT) {
          ownWords[own] = Tape.withLetter(ownWords[own], letter, sign - 'a' + 1);
          letter++;
        }
      }
    }

    /** Whether the tape is a book; it stands in plan then. */
    boolean readBook() {
      plan.clear();
      state = ASK_STATEMENT;
      at = 0;
      faultSort = 0;
      faultPlace = NONE;
      for (int i = 0; i <= Tape.MOST; i++) {
        lookAtNext();
        if (at >= tape.count && state == ASK_STATEMENT && plan.shapeCount > 0) {
          return true;
        }
        boolean good = state < ASK_FIRST_SCHEME ? takeInScheme() : takeInCross();
        if (!good) {
          return false;
        }
      }
      return refuse(NO_TEXT, at);
    }

    private void lookAtNext() {
      while (at < tape.count && tape.isBlank(at)) {
        at++;
      }
      letters = tape.lettersFrom(at);
      digits = tape.digitsFrom(at);
      number = tape.numberFrom(at, Math.min(digits, NUMBER_DIGITS));
      word = tape.nameFrom(at);
      ownWord = NONE;
      for (int i = 0; i < OWN_COUNT && letters > 0 && letters <= Tape.NAME_LETTERS; i++) {
        if (ownWords[i] == word) {
          ownWord = i;
        }
      }
    }

    private boolean takeInScheme() {
      switch (state) {
        case ASK_STATEMENT:
          return takeStatement();
        case ASK_SCHEME_NAME:
          return takeSchemeName();
        case ASK_KIND:
          return takeKind();
        case ASK_FIELD_NAME:
          return takeFieldName();
        case ASK_TIMES_OR_SIGN:
          return ownWord == TIMES ? goOn(ASK_TIMES_NUMBER) : takeSign(ASK_KIND);
        case ASK_TIMES_NUMBER:
          return takeTimesNumber();
        default:
          return takeSign(ASK_KIND);
      }
    }

    private boolean takeInCross() {
      switch (state) {
        case ASK_FIRST_SCHEME:
          return takeFirstScheme();
        case ASK_TO:
          return ownWord == TO ? goOn(ASK_SECOND_SCHEME) : refuse(NO_TEXT, at);
        case ASK_SECOND_SCHEME:
          return takeSecondScheme();
        case ASK_TARGET:
          return takeTarget();
        case ASK_FROM:
          return ownWord == FROM ? goOn(ASK_SOURCE) : refuse(NO_TEXT, at);
        case ASK_SOURCE:
          return digits > 0 ? takeNumberSource() : takeFieldSource();
        case ASK_SORT_OR_SIGN:
          return ownWord >= BY && ownWord <= PLUS ? takeSort() : takeRuleSign();
        case ASK_FACTOR:
          return takeFactor();
        case ASK_SECOND_FIELD:
          return takeSecondField();
        default:
          return takeRuleSign();
      }
    }

    private boolean refuse(int sort, int place) {
      faultSort = sort;
      faultPlace = place;
      return false;
    }

    /** What stands next is passed; a sign is one byte. */
    private boolean goOn(int newState) {
      at += Math.max(Math.max(letters, digits), 1);
      state = newState;
      return true;
    }

    private boolean nameStands() {
      if (letters > Tape.NAME_LETTERS) {
        return refuse(NO_TEXT, at + Tape.NAME_LETTERS);
      }
      return letters > 0 && ownWord == NONE || refuse(NO_TEXT, at);
    }

    private boolean numberStands(int low, int high) {
      if (digits == 0 || tape.isLetter(at - 1)) {
        return refuse(NO_TEXT, at);
      }
      if (digits > NUMBER_DIGITS) {
        return refuse(NO_TEXT, at + NUMBER_DIGITS);
      }
      return number >= low && number <= high || refuse(NO_NUMBER, at);
    }

    private boolean refuseOneMore() {
      return refuse(at < tape.count ? ONE_TOO_MANY : NO_TEXT, at);
    }

    /** The sign behind a field or a rule: another one of these comes, or another statement. */
    private boolean takeSign(int another) {
      int sign = tape.byteAt(at);
      if (sign == ',') {
        return goOn(another);
      }
      return sign == ';' ? goOn(ASK_STATEMENT) : refuse(NO_TEXT, at);
    }

    private boolean takeStatement() {
      if (ownWord == SCHEME) {
        boolean isFull = plan.shapeCount >= Plan.SHAPES || plan.passageCount > 0;
        return isFull ? refuse(ONE_TOO_MANY, at) : goOn(ASK_SCHEME_NAME);
      }
      if (ownWord != CROSS || plan.shapeCount == 0) {
        return refuse(NO_TEXT, at);
      }
      boolean isFull = plan.passageCount >= Plan.PASSAGES;
      return isFull ? refuse(ONE_TOO_MANY, at) : goOn(ASK_FIRST_SCHEME);
    }

    private boolean takeSchemeName() {
      if (!nameStands()) {
        return false;
      }
      if (plan.shapeOfName(word) != NONE) {
        return refuse(WRONG_NAME, at);
      }
      Shape added = plan.addShape(word);
      if (added == null) {
        return refuse(ONE_TOO_MANY, at);
      }
      shape = added;
      return goOn(ASK_KIND);
    }

    private boolean takeKind() {
      if (shape.fieldCount >= Shape.MOST) {
        return refuseOneMore();
      }
      if (ownWord < Kinds.BIT || ownWord > Kinds.WORD) {
        return refuse(NO_TEXT, at);
      }
      kind = ownWord;
      return goOn(ASK_FIELD_NAME);
    }

    private boolean takeFieldName() {
      if (!nameStands()) {
        return false;
      }
      if (shape.fieldOfName(word) != NONE) {
        return refuse(WRONG_NAME, at);
      }
      shape.addField(word, kind);
      return goOn(ASK_TIMES_OR_SIGN);
    }

    private boolean takeTimesNumber() {
      if (!numberStands(1, 4)) {
        return false;
      }
      shape.repeatLast(number);
      return goOn(ASK_FIELD_SIGN);
    }

    private boolean takeFirstScheme() {
      if (!nameStands()) {
        return false;
      }
      from = plan.shapeOfName(word);
      return from == NONE ? refuse(WRONG_NAME, at) : goOn(ASK_TO);
    }

    private boolean takeSecondScheme() {
      if (!nameStands()) {
        return false;
      }
      int to = plan.shapeOfName(word);
      Shape comesFrom = plan.shape(from);
      Shape leadsTo = plan.shape(to);
      if (to == from || comesFrom == null || leadsTo == null) {
        return refuse(WRONG_NAME, at);
      }
      Passage added = plan.addPassage(from, to);
      if (added == null) {
        return refuse(ONE_TOO_MANY, at);
      }
      passage = added;
      first = comesFrom;
      second = leadsTo;
      return goOn(ASK_TARGET);
    }

    private boolean takeTarget() {
      if (passage.ruleCount >= Passage.MOST) {
        return refuseOneMore();
      }
      if (!nameStands()) {
        return false;
      }
      target = second.fieldOfName(word);
      if (target == NONE || (passage.fieldsFilled() >> target & 1) != 0) {
        return refuse(WRONG_NAME, at);
      }
      return goOn(ASK_FROM);
    }

    private boolean takeNumberSource() {
      if (!numberStands(0, 999)) {
        return false;
      }
      if (second.kindOf(target) == Kinds.BIT) {
        return refuse(WRONG_FIELD, at);
      }
      return beginRule(Rule.NUMBER, NONE, number, ASK_RULE_SIGN);
    }

    private boolean takeFieldSource() {
      if (!nameStands()) {
        return false;
      }
      int source = first.fieldOfName(word);
      if (source == NONE) {
        return refuse(WRONG_NAME, at);
      }
      return beginRule(Rule.ALONE, source, 0, ASK_SORT_OR_SIGN);
    }

    private boolean beginRule(int sort, int source, int other, int newState) {
      Rule added = passage.addRule();
      if (added == null) {
        return refuse(ONE_TOO_MANY, at);
      }
      added.set(target, sort, source, other);
      rule = added;
      return goOn(newState);
    }

    private boolean takeSort() {
      if (!Kinds.isNumber(first.kindOf(rule.first))) {
        return refuse(WRONG_FIELD, at);
      }
      rule.sort = ownWord == BY ? Rule.BY : ownWord == OVER ? Rule.OVER : Rule.PLUS;
      return goOn(ownWord == PLUS ? ASK_SECOND_FIELD : ASK_FACTOR);
    }

    private boolean takeFactor() {
      if (!numberStands(1, 999)) {
        return false;
      }
      rule.other = number;
      return goOn(ASK_RULE_SIGN);
    }

    private boolean takeSecondField() {
      if (!nameStands()) {
        return false;
      }
      int source = first.fieldOfName(word);
      if (source == NONE) {
        return refuse(WRONG_NAME, at);
      }
      if (!Kinds.isNumber(first.kindOf(source))) {
        return refuse(WRONG_FIELD, at);
      }
      rule.other = source;
      return goOn(ASK_RULE_SIGN);
    }

    private boolean takeRuleSign() {
      rule.settle(first, second);
      return takeSign(ASK_TARGET);
    }
  }

  /** The records of all schemes, their rows and the things, and how they were ahead of the last acts. */
  private static final class Rows {
    static final int RECORDS = 8;
    static final int WIDTH = 24;
    static final int THINGS = 4;
    /** What a row of words holds where there is nothing; no word is told by it. */
    static final long EMPTY_WORD = -1;

    private static final int ACTS = 20;
    /** All stands in one array, so that one copy of it keeps what an act changes. */
    private static final int THING_KINDS = Plan.SHAPES;
    private static final int THING_VALUES = THING_KINDS + THINGS;
    private static final int CELLS = THING_VALUES + THINGS;
    private static final int SIZE = CELLS + Plan.SHAPES * RECORDS * WIDTH;

    private final long[] now = new long[SIZE];
    private final long[][] past = new long[ACTS][SIZE];
    private int next;
    int kept;

    Rows() {
      clear();
    }

    void clear() {
      Arrays.fill(now, 0L);
      setThing(0, Kinds.INT, 7);
      setThing(1, Kinds.WORD, 34);
      setThing(2, Kinds.EMPTY, 0);
      setThing(3, Kinds.BIT, 1);
      next = 0;
      kept = 0;
    }

    void keepPast() {
      if (next >= 0 && next < ACTS) {
        System.arraycopy(now, 0, past[next], 0, SIZE);
        next = (next + 1) % ACTS;
        kept = Math.min(kept + 1, ACTS);
      }
    }

    boolean goBack() {
      if (kept <= 0) {
        return false;
      }
      kept--;
      next = Math.floorMod(next - 1, ACTS);
      System.arraycopy(past[next], 0, now, 0, SIZE);
      return true;
    }

    int countOf(int scheme) {
      return scheme >= 0 && scheme < Plan.SHAPES ? (int) now[scheme] : 0;
    }

    boolean hasRecord(int scheme, int record) {
      return record >= 0 && record < countOf(scheme);
    }

    boolean hasRoom(int scheme) {
      return countOf(scheme) < RECORDS;
    }

    /** Where the cells of a record begin. */
    private static int recordStart(int scheme, int record) {
      return CELLS + (scheme * RECORDS + record) * WIDTH;
    }

    private static boolean isRecordPlace(int scheme, int record) {
      return scheme >= 0 && scheme < Plan.SHAPES && record >= 0 && record < RECORDS;
    }

    private void blank(int scheme, int record) {
      if (isRecordPlace(scheme, record)) {
        int begin = recordStart(scheme, record);
        for (int i = begin; i < begin + WIDTH && i < SIZE; i++) {
          now[i] = 0;
        }
      }
    }

    private void move(int scheme, int record, int to) {
      if (isRecordPlace(scheme, record) && isRecordPlace(scheme, to)) {
        System.arraycopy(now, recordStart(scheme, record), now, recordStart(scheme, to), WIDTH);
      }
    }

    int addBlank(int scheme) {
      int record = countOf(scheme);
      if (!isRecordPlace(scheme, record)) {
        return NONE;
      }
      blank(scheme, record);
      now[scheme]++;
      return record;
    }

    int addLike(int scheme, int record) {
      int added = addBlank(scheme);
      move(scheme, record, added);
      return added;
    }

    void remove(int scheme, int record) {
      if (!hasRecord(scheme, record)) {
        return;
      }
      int last = countOf(scheme) - 1;
      for (int i = record; i < last; i++) {
        move(scheme, i + 1, i);
      }
      blank(scheme, last);
      now[scheme]--;
    }

    /** Where a place of a field's row stands; NONE when there is no such place. */
    private static int indexOf(int scheme, Shape shape, int field, int place) {
      if (!shape.hasField(field) || place < 0) {
        return NONE;
      }
      int cells = shape.cells[field];
      if (cells < 1 || !isRecordPlace(scheme, place / cells)) {
        return NONE;
      }
      return recordStart(scheme, place / cells) + shape.starts[field] + place % cells;
    }

    private long rawAt(int scheme, Shape shape, int field, int place) {
      int index = indexOf(scheme, shape, field, place);
      return index >= 0 && index < SIZE ? now[index] : 0;
    }

    boolean isEmptyAt(int scheme, Shape shape, int field, int place) {
      return shape.hasWords(field) && rawAt(scheme, shape, field, place) == EMPTY_WORD;
    }

    /** The value at a place; nothing counts as an empty word. */
    long valueAt(int scheme, Shape shape, int field, int place) {
      long value = rawAt(scheme, shape, field, place);
      return value == EMPTY_WORD && shape.hasWords(field) ? 0 : value;
    }

    void setAt(int scheme, Shape shape, int field, int place, long value) {
      int index = indexOf(scheme, shape, field, place);
      if (index >= 0 && index < SIZE) {
        now[index] = value;
      }
    }

    int thingKind(int place) {
      return place >= 0 && place < THINGS ? (int) now[THING_KINDS + place] : Kinds.EMPTY;
    }

    long thingValue(int place) {
      return place >= 0 && place < THINGS ? now[THING_VALUES + place] : 0;
    }

    void setThing(int place, int kind, long value) {
      if (place >= 0 && place < THINGS) {
        now[THING_KINDS + place] = kind;
        now[THING_VALUES + place] = value;
      }
    }

    /** Takes all values of a record, field by field, and 0 behind them. */
    void takeValues(int scheme, Shape shape, int record, long[] values) {
      Arrays.fill(values, 0L);
      for (int field = 0; field < shape.fieldCount; field++) {
        int cells = shape.hasField(field) ? shape.cells[field] : 0;
        for (int cell = 0; cell < cells; cell++) {
          int place = shape.starts[field] + cell;
          if (place >= 0 && place < values.length) {
            values[place] = valueAt(scheme, shape, field, record * cells + cell);
          }
        }
      }
    }

    void setValues(int scheme, int record, long[] values) {
      if (isRecordPlace(scheme, record) && values.length >= WIDTH) {
        System.arraycopy(values, 0, now, recordStart(scheme, record), WIDTH);
      }
    }

    /** How many records there are at the most whose values of a field are alike. */
    int mostAlike(int scheme, Shape shape, int field) {
      int most = 0;
      for (int one = 0; one < countOf(scheme); one++) {
        int alike = 0;
        for (int other = 0; other < countOf(scheme); other++) {
          if (areAlike(scheme, shape, field, one, other)) {
            alike++;
          }
        }
        most = Math.max(most, alike);
      }
      return most;
    }

    private boolean areAlike(int scheme, Shape shape, int field, int one, int other) {
      int cells = shape.hasField(field) ? shape.cells[field] : 0;
      for (int cell = 0; cell < cells; cell++) {
        long value = valueAt(scheme, shape, field, one * cells + cell);
        if (value != valueAt(scheme, shape, field, other * cells + cell)) {
          return false;
        }
      }
      return true;
    }
  }

  /** Carries the values of a record by a crossing, and takes the account of it. */
  private static final class Carrier {
    static final int ENTRIES = 6;
    static final int CARRIED = 0;
    static final int WIDENED = 1;
    static final int KEPT = 2;
    static final int LOST = 3;
    static final int UNREAD = 4;
    static final int UNFILLED = 5;

    private static final long FARTHEST = 1000000000000000L;

    final int[] account = new int[ENTRIES];

    void carry(Plan plan, Passage passage, long[] source, long[] target) {
      Arrays.fill(account, 0);
      Arrays.fill(target, 0L);
      Shape from = plan.shape(passage.from);
      Shape to = plan.shape(passage.to);
      if (from == null || to == null) {
        return;
      }
      int cellsRead = 0;
      for (int i = 0; i < passage.ruleCount; i++) {
        Rule rule = passage.ruleAt(i);
        if (rule != null) {
          carryByRule(rule, from, to, source, target);
          cellsRead |= rule.cellsRead;
        }
      }
      account[UNREAD] = from.cellCount - Integer.bitCount(cellsRead);
      account[UNFILLED] = to.cellCount - account[CARRIED];
    }

    private void carryByRule(Rule rule, Shape from, Shape to, long[] source, long[] target) {
      if (!to.hasField(rule.target)) {
        return;
      }
      int kind = to.kinds[rule.target];
      for (int cell = 0; cell < rule.cells; cell++) {
        int place = to.starts[rule.target] + cell;
        if (place >= 0 && place < target.length) {
          long value = valueMade(rule, from, source, cell);
          long changed = Kinds.changed(rule.made, value, kind);
          target[place] = changed;
          account[CARRIED]++;
          if (rule.fits) {
            account[WIDENED]++;
          } else if (Kinds.changed(kind, changed, rule.made) == value) {
            account[KEPT]++;
          } else {
            account[LOST]++;
          }
        }
      }
    }

    /** What a rule makes of a cell that all its fields have. */
    private static long valueMade(Rule rule, Shape from, long[] source, int cell) {
      if (rule.sort == Rule.NUMBER) {
        return rule.other;
      }
      long first = valueOf(from, rule.first, source, cell);
      if (rule.sort == Rule.ALONE) {
        return first;
      }
      boolean isPlus = rule.sort == Rule.PLUS;
      long second = isPlus ? valueOf(from, rule.other, source, cell) : rule.other;
      if (rule.made == Kinds.LONG) {
        return wholeMade(rule.sort, first, second);
      }
      double one = Kinds.realOf(from.kindOf(rule.first), first);
      double other = Kinds.realOf(isPlus ? from.kindOf(rule.other) : Kinds.INT, second);
      return Reals.toBits(realMade(rule.sort, one, other), Kinds.DOUBLE);
    }

    private static long valueOf(Shape from, int field, long[] source, int cell) {
      int place = from.hasField(field) ? from.starts[field] + cell : NONE;
      return place >= 0 && place < source.length ? source[place] : 0;
    }

    private static long wholeMade(int sort, long one, long other) {
      if (sort == Rule.BY) {
        return one * other;
      }
      if (sort == Rule.PLUS) {
        return one + other;
      }
      return other == 0 ? 0 : one / other;
    }

    private static double realMade(int sort, double one, double other) {
      double farthest = (double) FARTHEST;
      double made = 0;
      if (sort == Rule.BY) {
        made = one * other;
      } else if (sort == Rule.PLUS) {
        made = one + other;
      } else if (other != 0) {
        made = one / other;
      }
      if (made > farthest) {
        return farthest;
      }
      return made < -farthest ? -farthest : made;
    }
  }

  /** Finds ways between schemes: crossings one behind the other, none twice, three at most. */
  private static final class Ways {
    private static final int MOST = 3;

    private final int[] steps = new int[MOST];
    private final int[] bestSteps = new int[MOST];
    private final long[] one = new long[Rows.WIDTH];
    private final long[] other = new long[Rows.WIDTH];
    int bestCount;
    int leastLost;

    int stepAt(int k) {
      return k >= 0 && k < bestCount && k < MOST ? bestSteps[k] : NONE;
    }

    boolean findShortest(Plan plan, int from, int to) {
      bestCount = 0;
      for (int count = 1; count <= MOST && bestCount == 0; count++) {
        for (int code = 0; code < 1 << 2 * count && bestCount == 0; code++) {
          if (leads(plan, from, to, count, code)) {
            choose(count);
          }
        }
      }
      return bestCount > 0;
    }

    /** Tries all ways from the shortest on, so that the first of like ones stays. */
    boolean findLeast(Plan plan, int from, int to, long[] record, Carrier carrier) {
      bestCount = 0;
      for (int count = 1; count <= MOST; count++) {
        for (int code = 0; code < 1 << 2 * count; code++) {
          if (leads(plan, from, to, count, code)) {
            int lost = lostBySteps(plan, count, record, carrier);
            if (bestCount == 0 || lost < leastLost) {
              leastLost = lost;
              choose(count);
            }
          }
        }
      }
      return bestCount > 0;
    }

    private void choose(int count) {
      System.arraycopy(steps, 0, bestSteps, 0, MOST);
      bestCount = count;
    }

    /** Whether a code, two bits a crossing, the first the highest, tells a way; its crossings stand in steps then. */
    private boolean leads(Plan plan, int from, int to, int count, int code) {
      int stand = from;
      int used = 0;
      for (int i = 0; i < count && i < MOST; i++) {
        int crossing = code >> 2 * (count - 1 - i) & 3;
        Passage passage = plan.passage(crossing);
        if (passage == null || passage.from != stand || (used >> crossing & 1) != 0) {
          return false;
        }
        used |= 1 << crossing;
        steps[i] = crossing;
        stand = passage.to;
      }
      return stand == to;
    }

    private int lostBySteps(Plan plan, int count, long[] record, Carrier carrier) {
      long[] source = one;
      long[] target = other;
      System.arraycopy(record, 0, source, 0, Math.min(record.length, source.length));
      int lost = 0;
      for (int i = 0; i < count && i < MOST; i++) {
        Passage passage = plan.passage(steps[i]);
        if (passage != null) {
          carrier.carry(plan, passage, source, target);
          lost += carrier.account[Carrier.LOST];
          long[] spent = source;
          source = target;
          target = spent;
        }
      }
      return lost;
    }
  }
}
