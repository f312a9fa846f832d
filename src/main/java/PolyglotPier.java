import java.util.NoSuchElementException;

/** Three unlike languages, Ash, Birch and Cedar, on one machine with one heap. */
public final class PolyglotPier {
  private static final int ASH = 0;
  private static final int BIRCH = 1;
  private static final int CEDAR = 2;
  private static final int LANGUAGES = 3;

  private static final int FUNCTIONS = 9;
  private static final int PARAMETERS = 2;
  private static final int CODES = 20;
  private static final int GREATEST_NUMBER = 9999;
  private static final int LOCALS = 4;
  private static final int GLOBALS = 8;
  private static final int FIELDS = 3;
  private static final int THINGS = 60;
  private static final int CALLS = 12;
  private static final int RUN_CODES = 400;
  // Codes, and ends of calls behind the last code: of these at most one more than codes.
  private static final int RUN_STEPS = 1000;
  // A throw in place of another one is a small number, which always crosses: two traces at most.
  private static final int TRACE = 2 * CALLS;
  private static final String OPS = "nhlsgp+-*/<=zjofqcrtke";

  private static final int OVERFLOW = 1;
  private static final int BY_ZERO = 2;
  private static final int NOT_NEEDED_KIND = 3;
  private static final int NO_SUCH_NUMBER_THERE = 4;
  private static final int ESCAPE_CROSSES = 5;
  private static final int CALL_OUT_OF_REACH = 6;
  private static final int FULL = 7;
  private static final int NOT_THERE = 8;
  // What 't' answers in place of a fault: the value to throw is laid ready already.
  private static final int THROWN = 9;

  private static final char RETURNED = 'r';
  private static final char LEFT_BY_THROW = 'x';
  private static final char LIMITED = 'l';
  private static final char NOT_RUN = '-';

  private final Machine machine;
  private final Heap heap;
  private final Value carried;

  public PolyglotPier() {
    machine = new Machine();
    heap = machine.heap;
    carried = new Value();
  }

  // ---- functions and runs

  public int addFunction(int language, int parameters)
      throws IllegalArgumentException, IllegalStateException {
    if (!isWithin(language, LANGUAGES) || !isWithin(parameters, PARAMETERS + 1)) {
      throw new IllegalArgumentException("no such language or number of parameters");
    }
    if (machine.functionCount >= FUNCTIONS) {
      throw new IllegalStateException("there are 9 functions");
    }
    return machine.newFunction(language, parameters);
  }

  public int code(int function, char op, int number)
      throws IndexOutOfBoundsException, IllegalArgumentException, IllegalStateException {
    requireFunction(function);
    if (OPS.indexOf(op) < 0 || number < -GREATEST_NUMBER || number > GREATEST_NUMBER) {
      throw new IllegalArgumentException("no such op or number");
    }
    Function changed = machine.functions[function];
    if (changed.size >= CODES) {
      throw new IllegalStateException("the function has 20 codes");
    }
    return changed.append(op, number);
  }

  public boolean guard(int function, int from, int to, int at, boolean takesAll)
      throws IndexOutOfBoundsException, IllegalArgumentException {
    requireFunction(function);
    boolean isPlaced = isWithin(from, CODES) && isWithin(to, CODES);
    if (!isPlaced || at < -1 || at >= CODES || to < from) {
      throw new IllegalArgumentException("no such places");
    }
    Function changed = machine.functions[function];
    boolean had = changed.guardAt >= 0;
    changed.guardFrom = from;
    changed.guardTo = to;
    changed.guardAt = at;
    changed.guardTakesAll = takesAll;
    return had;
  }

  public char run(int function, int first, int second) throws IndexOutOfBoundsException {
    requireFunction(function);
    machine.begin(function, first, second);
    for (int step = 0; step < RUN_STEPS && machine.depth > 0; step++) {
      machine.advance();
    }
    heap.settle();
    return machine.outcome;
  }

  public char resultKind() throws NoSuchElementException {
    if (!machine.hasResult()) {
      throw new NoSuchElementException("no result");
    }
    return machine.result.kind;
  }

  public double resultNumber() throws NoSuchElementException {
    if (!machine.hasResult() || !machine.result.isNumber()) {
      throw new NoSuchElementException("no number");
    }
    return machine.result.told();
  }

  public long resultWhole() throws NoSuchElementException {
    if (!machine.hasResult() || !machine.result.isWholeOrReference()) {
      throw new NoSuchElementException("no whole number");
    }
    return machine.result.whole;
  }

  public int trace() throws NoSuchElementException {
    requireThrow();
    return machine.traceLength;
  }

  public int traceAt(int index) throws NoSuchElementException, IndexOutOfBoundsException {
    requireThrow();
    requireIndex(index, machine.traceLength);
    return machine.traceRow[index];
  }

  public int thrownIn() throws NoSuchElementException {
    requireThrow();
    return machine.thrownLanguage;
  }

  // ---- globals and things

  public int set(int language, int global, int number) throws IndexOutOfBoundsException {
    requireGlobal(language, global);
    carried.becomeNumber(language, number);
    heap.storeGlobal(language, global, carried);
    return heap.settle();
  }

  public int make(int language, int global)
      throws IndexOutOfBoundsException, IllegalStateException {
    requireGlobal(language, global);
    Thing thing = heap.newThing(language);
    if (thing == null) {
      throw new IllegalStateException("there are 60 things");
    }
    carried.becomeReference(thing);
    heap.storeGlobal(language, global, carried);
    heap.settle();
    return thing.number;
  }

  public int pass(int language, int global, int other, int into)
      throws IndexOutOfBoundsException {
    requireGlobal(language, global);
    requireGlobal(other, into);
    carried.become(heap.globalOf(language, global));
    int fault = Border.cross(carried, language, other);
    if (fault == 0) {
      heap.storeGlobal(other, into, carried);
      heap.settle();
    }
    return fault;
  }

  public int put(int language, int global, int field, int from)
      throws IndexOutOfBoundsException, UnsupportedOperationException {
    requireGlobal(language, global);
    requireGlobal(language, from);
    requireIndex(field, FIELDS);
    Thing thing = referredThing(language, global);
    carried.become(heap.globalOf(language, from));
    int fault = Border.cross(carried, language, thing.language);
    if (fault == 0) {
      heap.storeField(thing, field, carried);
      heap.settle();
    }
    return fault;
  }

  public int get(int language, int global, int field, int into)
      throws IndexOutOfBoundsException, UnsupportedOperationException {
    requireGlobal(language, global);
    requireGlobal(language, into);
    requireIndex(field, FIELDS);
    Thing thing = referredThing(language, global);
    carried.become(thing.fields[field]);
    int fault = Border.cross(carried, thing.language, language);
    if (fault == 0) {
      heap.storeGlobal(language, into, carried);
      heap.settle();
    }
    return fault;
  }

  public char kindOf(int language, int global) throws IndexOutOfBoundsException {
    requireGlobal(language, global);
    return heap.globalOf(language, global).kind;
  }

  public double numberOf(int language, int global)
      throws IndexOutOfBoundsException, NoSuchElementException {
    requireGlobal(language, global);
    Value value = heap.globalOf(language, global);
    if (!value.isNumber() && !value.isReference()) {
      throw new NoSuchElementException("neither a number nor a reference");
    }
    return value.told();
  }

  public boolean equal(int language, int global, int other) throws IndexOutOfBoundsException {
    requireGlobal(language, global);
    requireGlobal(language, other);
    return heap.globalOf(language, global).isSameAs(heap.globalOf(language, other));
  }

  // ---- heaps

  public int made() {
    return heap.madeCount;
  }

  public int things(int language) throws IndexOutOfBoundsException {
    requireIndex(language, LANGUAGES);
    return heap.thingsOf(language);
  }

  public boolean isThere(int thing) throws IndexOutOfBoundsException {
    requireIndex(thing, heap.madeCount);
    return heap.find(thing) != null;
  }

  public int count(int thing) throws IndexOutOfBoundsException, NoSuchElementException {
    Thing asked = thingThere(thing);
    heap.tally();
    return asked.ownCount();
  }

  public boolean isHeld(int thing) throws IndexOutOfBoundsException, NoSuchElementException {
    Thing asked = thingThere(thing);
    heap.tally();
    return asked.hasProxyOrHandle();
  }

  public int collect() {
    return heap.freeUnreached(false);
  }

  public int collectRings() {
    return heap.freeUnreached(true);
  }

  public int freed() {
    return heap.freedCount;
  }

  // ---- figures

  public long crossings() {
    return machine.crossed;
  }

  public float freedShare() throws ArithmeticException {
    if (heap.madeCount <= 0) {
      throw new ArithmeticException("no thing was made");
    }
    return (float) heap.freedCount / (float) heap.madeCount;
  }

  public boolean isSound() {
    return heap.holdsTogether();
  }

  // ---- what the calls need

  private static boolean isWithin(int index, int size) {
    return index >= 0 && index < size;
  }

  private static char nothingOf(int language) {
    return language == ASH ? 'u' : language == BIRCH ? 'n' : 'e';
  }

  private static void requireIndex(int index, int size) {
    if (!isWithin(index, size)) {
      throw new IndexOutOfBoundsException("no such index");
    }
  }

  private static void requireGlobal(int language, int global) {
    requireIndex(language, LANGUAGES);
    requireIndex(global, GLOBALS);
  }

  private void requireFunction(int function) {
    requireIndex(function, machine.functionCount);
  }

  private void requireThrow() {
    if (machine.outcome != LEFT_BY_THROW) {
      throw new NoSuchElementException("no throw left the last run");
    }
  }

  private Thing referredThing(int language, int global) {
    Value value = heap.globalOf(language, global);
    if (!value.isReference()) {
      throw new UnsupportedOperationException("the global refers to no thing");
    }
    return value.target;
  }

  private Thing thingThere(int number) {
    requireIndex(number, heap.madeCount);
    Thing thing = heap.find(number);
    if (thing == null) {
      throw new NoSuchElementException("the thing is freed");
    }
    return thing;
  }

  /** A cell for a value of any language; cells are made in constructors and written over. */
  private static final class Value {
    char kind = 'n';
    double real;
    // A double that is not a number is marked, as no operation may answer one.
    boolean isStrange;
    // The int or the long, the number of the thing, or that of the escape's call.
    long whole;
    int place;
    Thing target;

    void become(Value other) {
      kind = other.kind;
      real = other.real;
      isStrange = other.isStrange;
      whole = other.whole;
      place = other.place;
      target = other.target;
    }

    void becomeReal(double number) {
      kind = 'd';
      real = number;
      isStrange = false;
      target = null;
    }

    void becomeStrange() {
      kind = 'd';
      real = 0.0;
      isStrange = true;
      target = null;
    }

    void becomeWhole(char wholeKind, long number) {
      kind = wholeKind;
      whole = number;
      isStrange = false;
      target = null;
    }

    void becomeNumber(int language, int number) {
      if (language == ASH) {
        becomeReal((double) number);
      } else {
        becomeWhole(language == BIRCH ? 'i' : 'j', (long) number);
      }
    }

    void becomeNothing(char nothing) {
      kind = nothing;
      isStrange = false;
      target = null;
    }

    void becomeEscape(long call, int toPlace) {
      becomeWhole('k', call);
      place = toPlace;
    }

    void becomeReference(Thing thing) {
      becomeWhole('t', (long) thing.number);
      target = thing;
    }

    boolean isNumber() {
      return kind == 'd' || kind == 'i' || kind == 'j';
    }

    boolean isNothing() {
      return kind == 'u' || kind == 'n' || kind == 'e';
    }

    boolean isReference() {
      return kind == 't' && target != null;
    }

    boolean isWholeOrReference() {
      return kind == 'i' || kind == 'j' || kind == 't';
    }

    boolean isZeroOrNothing() {
      if (kind == 'd') {
        return !isStrange && real == 0.0;
      }
      return isNothing() || (isNumber() && whole == 0);
    }

    double asDouble() {
      return kind == 'd' ? real : (double) whole;
    }

    /** The number as the caller is told it; the one place where an answer is not a number. */
    double told() {
      double zero = 0.0;
      return isStrange ? zero / zero : asDouble();
    }

    boolean isSameAs(Value other) {
      if (isNumber() && other.isNumber()) {
        return isSameNumber(other);
      }
      if (isNothing() && other.isNothing()) {
        return true;
      }
      boolean isEscape = kind == 'k';
      return kind == other.kind && whole == other.whole && (!isEscape || place == other.place);
    }

    private boolean isSameNumber(Value other) {
      if (isStrange || other.isStrange) {
        return false;
      }
      if (kind == 'd' || other.kind == 'd') {
        return asDouble() == other.asDouble();
      }
      return whole == other.whole;
    }

    boolean isLessThan(Value other) {
      if (isStrange || other.isStrange) {
        return false;
      }
      if (kind == 'd' || other.kind == 'd') {
        return asDouble() < other.asDouble();
      }
      return whole < other.whole;
    }
  }

  /** How values cross from a language to another one. */
  private static final class Border {
    /** Makes the value one of the other language, or answers the fault. */
    static int cross(Value value, int from, int to) {
      if (from == to || value.kind == 't') {
        return 0;
      }
      if (value.kind == 'k') {
        return ESCAPE_CROSSES;
      }
      if (value.isNothing()) {
        value.becomeNothing(to == CEDAR ? 'e' : 'n');
        return 0;
      }
      if (to == ASH) {
        return toAsh(value);
      }
      return to == BIRCH ? toBirch(value) : toCedar(value);
    }

    private static int toAsh(Value value) {
      if (value.kind == 'd') {
        return 0;
      }
      double real = (double) value.whole;
      // The longs next to 2^63 become this double, and a cast of it back is the greatest long.
      if (real >= 9.223372036854775808E18 || (long) real != value.whole) {
        return NO_SUCH_NUMBER_THERE;
      }
      value.becomeReal(real);
      return 0;
    }

    private static int toBirch(Value value) {
      if (value.kind == 'd') {
        boolean isInt = isWhole(value) && value.real >= -2147483648.0 && value.real <= 2147483647.0;
        if (isInt) {
          value.becomeWhole('i', (long) value.real);
        }
        return 0;
      }
      if ((int) value.whole != value.whole) {
        return NO_SUCH_NUMBER_THERE;
      }
      value.becomeWhole('i', value.whole);
      return 0;
    }

    private static int toCedar(Value value) {
      if (value.kind != 'd') {
        value.becomeWhole('j', value.whole);
        return 0;
      }
      if (!isWhole(value)) {
        return NO_SUCH_NUMBER_THERE;
      }
      value.becomeWhole('j', (long) value.real);
      return 0;
    }

    /** Whether there is a long of the value of this double; the zero below zero is none. */
    private static boolean isWhole(Value value) {
      double real = value.real;
      if (value.isStrange || real < -9.223372036854775808E18 || real >= 9.223372036854775808E18) {
        return false;
      }
      if (real == 0.0) {
        return 1.0 / real > 0.0;
      }
      return (double) (long) real == real;
    }
  }

  /** What comes of two numbers of a language. */
  private static final class Sums {
    /** Makes the lower number what comes of both, or answers the fault. */
    static int apply(int op, Value lower, Value upper) {
      if (lower.kind == 'd' || upper.kind == 'd') {
        applyToReals(op, lower, upper);
        return 0;
      }
      if (op == '/' && upper.whole == 0) {
        return BY_ZERO;
      }
      // Of two ints this is never more than a long holds, so that an overflow is seen behind it.
      long whole = ofWholes(op, lower.whole, upper.whole);
      if (lower.kind == 'i' && (int) whole != whole) {
        return OVERFLOW;
      }
      lower.becomeWhole(lower.kind, whole);
      return 0;
    }

    private static long ofWholes(int op, long lower, long upper) {
      switch (op) {
        case '+':
          return lower + upper;
        case '-':
          return lower - upper;
        case '*':
          return lower * upper;
        default:
          return upper == 0 ? 0 : lower / upper;
      }
    }

    private static void applyToReals(int op, Value lower, Value upper) {
      double left = lower.asDouble();
      double right = upper.asDouble();
      if (lower.isStrange || upper.isStrange || isNoNumber(op, left, right)) {
        lower.becomeStrange();
        return;
      }
      switch (op) {
        case '+':
          lower.becomeReal(left + right);
          break;
        case '-':
          lower.becomeReal(left - right);
          break;
        case '*':
          lower.becomeReal(left * right);
          break;
        default:
          lower.becomeReal(left / right);
          break;
      }
    }

    private static boolean isNoNumber(int op, double left, double right) {
      double greatest = 1.7976931348623157E308;
      boolean isLeftInfinite = left > greatest || left < -greatest;
      boolean isRightInfinite = right > greatest || right < -greatest;
      boolean bothInfinite = isLeftInfinite && isRightInfinite;
      boolean sameSign = (left > 0.0) == (right > 0.0);
      switch (op) {
        case '+':
          return bothInfinite && !sameSign;
        case '-':
          return bothInfinite && sameSign;
        case '*':
          return (left == 0.0 && isRightInfinite) || (isLeftInfinite && right == 0.0);
        default:
          return bothInfinite || (left == 0.0 && right == 0.0);
      }
    }
  }

  /** A room for a thing, used again for a later thing when this one is freed. */
  private static final class Thing {
    // -1 while no thing is in the room.
    int number = -1;
    int language;
    final Value[] fields = new Value[FIELDS];
    boolean hasProxy;
    // How many references to it are in Ash; fresh only behind Heap.tally().
    int inAsh;
    boolean isReached;

    Thing() {
      for (int field = 0; field < FIELDS; field++) {
        fields[field] = new Value();
      }
    }

    void begin(int newNumber, int newLanguage) {
      number = newNumber;
      language = newLanguage;
      hasProxy = false;
      inAsh = 0;
      for (int field = 0; field < FIELDS; field++) {
        fields[field].becomeNothing(nothingOf(newLanguage));
      }
    }

    boolean isOf(int wanted) {
      return number >= 0 && language == wanted;
    }

    int ownCount() {
      return inAsh + (language == ASH && hasProxy ? 1 : 0);
    }

    boolean hasProxyOrHandle() {
      return language == ASH ? hasProxy : inAsh > 0;
    }
  }

  /** The globals, the things, and both collectors. */
  private static final class Heap {
    final Value[] globals = new Value[LANGUAGES * GLOBALS];
    final Thing[] rooms = new Thing[THINGS];
    final Thing[] pending = new Thing[THINGS];
    int pendingCount;
    int madeCount;
    int freedCount;

    Heap() {
      for (int index = 0; index < LANGUAGES * GLOBALS; index++) {
        globals[index] = new Value();
        globals[index].becomeNothing(nothingOf(index / GLOBALS));
      }
      for (int room = 0; room < THINGS; room++) {
        rooms[room] = new Thing();
      }
    }

    Value globalOf(int language, int global) {
      return globals[language * GLOBALS + global];
    }

    void storeGlobal(int language, int global, Value value) {
      globalOf(language, global).become(value);
      noteProxy(language, value);
    }

    void storeField(Thing thing, int field, Value value) {
      thing.fields[field].become(value);
      noteProxy(thing.language, value);
    }

    private static void noteProxy(int holder, Value value) {
      if (holder != ASH && value.isReference() && value.target.language == ASH) {
        value.target.hasProxy = true;
      }
    }

    /** A new thing, or null if there are 60. */
    Thing newThing(int language) {
      for (Thing room : rooms) {
        if (room.number < 0) {
          room.begin(madeCount, language);
          madeCount++;
          return room;
        }
      }
      return null;
    }

    Thing find(int number) {
      for (Thing room : rooms) {
        if (number >= 0 && room.number == number) {
          return room;
        }
      }
      return null;
    }

    int thingsOf(int language) {
      int found = 0;
      for (Thing room : rooms) {
        found += room.isOf(language) ? 1 : 0;
      }
      return found;
    }

    /** Counts anew the references that are in Ash. */
    void tally() {
      for (Thing room : rooms) {
        room.inAsh = 0;
      }
      for (int global = 0; global < GLOBALS; global++) {
        addInAsh(globalOf(ASH, global), 1);
      }
      for (Thing room : rooms) {
        if (room.isOf(ASH)) {
          addFieldsInAsh(room, 1);
        }
      }
    }

    private static void addFieldsInAsh(Thing thing, int change) {
      for (Value field : thing.fields) {
        addInAsh(field, change);
      }
    }

    private static void addInAsh(Value value, int change) {
      if (value.isReference()) {
        value.target.inAsh += change;
      }
    }

    /** Frees the things of Ash with a count of 0, and what this leaves without one; how many. */
    int settle() {
      int before = freedCount;
      tally();
      boolean hasChanged = true;
      for (int round = 0; round <= THINGS && hasChanged; round++) {
        hasChanged = false;
        for (Thing room : rooms) {
          if (room.isOf(ASH) && room.ownCount() == 0) {
            addFieldsInAsh(room, -1);
            free(room);
            hasChanged = true;
          }
        }
      }
      return freedCount - before;
    }

    private void free(Thing thing) {
      thing.number = -1;
      freedCount++;
    }

    /** One of the collections: over the border, or of what is traced alone; how many are freed. */
    int freeUnreached(boolean overBorder) {
      int before = freedCount;
      tally();
      reachRoots(overBorder);
      // Each thing is pending once, so this ends when all that can be reached has been pending.
      for (int next = 0; next < THINGS && next < pendingCount; next++) {
        for (Value field : pending[next].fields) {
          reach(field, overBorder);
        }
      }
      for (Thing room : rooms) {
        boolean isLookedAt = room.number >= 0 && (overBorder || room.language != ASH);
        if (isLookedAt && !room.isReached) {
          free(room);
        }
      }
      renewProxies();
      settle();
      return freedCount - before;
    }

    private void reachRoots(boolean overBorder) {
      pendingCount = 0;
      for (Thing room : rooms) {
        room.isReached = false;
      }
      for (Value global : globals) {
        // A thing to which a global of Ash refers has a handle if it is not of Ash.
        reach(global, overBorder);
      }
      for (Thing room : rooms) {
        boolean hasHandle = room.number >= 0 && room.language != ASH && room.inAsh > 0;
        if (!overBorder && hasHandle) {
          reachThing(room);
        }
      }
    }

    private void reach(Value value, boolean overBorder) {
      if (value.isReference() && (overBorder || value.target.language != ASH)) {
        reachThing(value.target);
      }
    }

    private void reachThing(Thing thing) {
      if (!thing.isReached && pendingCount < THINGS) {
        thing.isReached = true;
        pending[pendingCount] = thing;
        pendingCount++;
      }
    }

    private void renewProxies() {
      for (Thing room : rooms) {
        room.hasProxy = false;
      }
      for (int index = 0; index < LANGUAGES * GLOBALS; index++) {
        noteProxy(index / GLOBALS, globals[index]);
      }
      for (Thing room : rooms) {
        if (room.number >= 0) {
          noteFieldProxies(room);
        }
      }
    }

    private static void noteFieldProxies(Thing thing) {
      for (Value field : thing.fields) {
        noteProxy(thing.language, field);
      }
    }

    boolean holdsTogether() {
      tally();
      for (Value global : globals) {
        if (!isWhereItRefers(global)) {
          return false;
        }
      }
      for (Thing room : rooms) {
        if (room.number >= 0 && !isSoundThing(room)) {
          return false;
        }
      }
      return true;
    }

    private static boolean isSoundThing(Thing thing) {
      for (Value field : thing.fields) {
        if (!isWhereItRefers(field)) {
          return false;
        }
      }
      return thing.language != ASH || thing.ownCount() > 0;
    }

    private static boolean isWhereItRefers(Value value) {
      return value.kind != 't' || (value.isReference() && value.target.number == value.whole);
    }
  }

  /** A function: its codes and its guarded part. */
  private static final class Function {
    int language;
    int parameters;
    final char[] ops = new char[CODES];
    final int[] numbers = new int[CODES];
    int size;
    int guardFrom;
    int guardTo;
    // -1 while there is no guarded part.
    int guardAt = -1;
    boolean guardTakesAll;

    int append(char op, int number) {
      int place = size;
      if (place < CODES) {
        ops[place] = op;
        numbers[place] = number;
        size++;
      }
      return place;
    }

    /** Whether there is the place; the one behind the last code is one. */
    boolean hasPlace(int place) {
      return place >= 0 && place <= size;
    }

    boolean takes(int place, int thrownLanguage) {
      boolean isGuarded = guardAt >= 0 && place >= guardFrom && place <= guardTo;
      return isGuarded && (guardTakesAll || thrownLanguage == language);
    }
  }

  /** A call of a function in a run. */
  private static final class Call {
    Function function;
    int functionNumber;
    // No two calls have the same one, also of different runs: escapes outlive their calls.
    long identity;
    // The code that is done, and the one that is done when this call goes on.
    int place;
    int next;
    int base;
    final Value[] locals = new Value[LOCALS];

    Call(Function none) {
      function = none;
      for (int local = 0; local < LOCALS; local++) {
        locals[local] = new Value();
      }
    }

    void begin(Function called, int number, long newIdentity) {
      function = called;
      functionNumber = number;
      identity = newIdentity;
      place = 0;
      next = 0;
      for (Value local : locals) {
        local.becomeNothing(nothingOf(called.language));
      }
    }

    boolean isBehindLastCode() {
      return next < 0 || next >= function.size || next >= CODES;
    }
  }

  /** The stacks of all calls, each one above that of its caller. */
  private static final class Stack {
    // A code leaves at most one value more than it found.
    final Value[] cells = new Value[RUN_CODES + CALLS];
    final Value spare = new Value();
    int top;

    Stack() {
      for (int cell = 0; cell < RUN_CODES + CALLS; cell++) {
        cells[cell] = new Value();
      }
    }

    /** The cell of a new value, to be written. */
    Value push() {
      if (top >= cells.length) {
        return spare;
      }
      top++;
      return cells[top - 1];
    }

    /** The cell of the upmost value, which stands until the next one is pushed. */
    Value pop() {
      if (top < 1) {
        return spare;
      }
      top--;
      return cells[top];
    }

    /** The value that so many others lie above. */
    Value under(int above) {
      int cell = top - 1 - above;
      return isWithin(cell, cells.length) ? cells[cell] : spare;
    }
  }

  /** The functions, and the run of one with its calls, throws and escapes. */
  private static final class Machine {
    final Heap heap = new Heap();
    final Function[] functions = new Function[FUNCTIONS];
    int functionCount;
    final Call[] calls = new Call[CALLS];
    int depth;
    long lastIdentity;
    final Stack stack = new Stack();
    int codesDone;
    long crossed;
    char outcome = NOT_RUN;
    final Value result = new Value();
    // What is under way: returned, read or written; and what is thrown.
    final Value carried = new Value();
    final Value thrown = new Value();
    int thrownLanguage;
    final int[] traceRow = new int[TRACE];
    int traceLength;

    Machine() {
      for (int number = 0; number < FUNCTIONS; number++) {
        functions[number] = new Function();
      }
      Function none = new Function();
      for (int level = 0; level < CALLS; level++) {
        calls[level] = new Call(none);
      }
    }

    int newFunction(int language, int parameters) {
      int number = functionCount;
      if (number < FUNCTIONS) {
        functions[number].language = language;
        functions[number].parameters = parameters;
        functionCount++;
      }
      return number;
    }

    boolean hasResult() {
      return outcome == RETURNED || outcome == LEFT_BY_THROW;
    }

    void begin(int number, int first, int second) {
      Function function = functions[number];
      codesDone = 0;
      traceLength = 0;
      stack.top = 0;
      // Stays so unless the run returns or a throw leaves it.
      outcome = LIMITED;
      Call bottom = calls[0];
      lastIdentity++;
      bottom.begin(function, number, lastIdentity);
      bottom.base = 0;
      if (function.parameters > 0) {
        bottom.locals[0].becomeNumber(function.language, first);
      }
      if (function.parameters > 1) {
        bottom.locals[1].becomeNumber(function.language, second);
      }
      depth = 1;
    }

    /** Does the next code, or ends the call that is behind its last one. */
    void advance() {
      if (depth < 1 || depth > CALLS) {
        depth = 0;
        return;
      }
      Call call = calls[depth - 1];
      int fault;
      if (call.isBehindLastCode()) {
        carried.becomeNothing(nothingOf(call.function.language));
        fault = endCall(call);
      } else if (codesDone >= RUN_CODES) {
        depth = 0;
        return;
      } else {
        codesDone++;
        call.place = call.next;
        call.next++;
        int op = call.function.ops[call.place];
        int number = call.function.numbers[call.place];
        fault = faultAhead(call, op, number);
        if (fault == 0) {
          fault = isMove(op) ? moveOn(call, op, number) : doCode(call, op, number);
        }
      }
      if (fault != 0) {
        raise(fault);
      }
    }

    /** The faults that can be told without a look at the values. */
    private int faultAhead(Call call, int op, int number) {
      if (isNotThere(call.function, op, number)) {
        return NOT_THERE;
      }
      return stack.top - call.base < popsOf(op, number) ? NOT_NEEDED_KIND : 0;
    }

    private static boolean isMove(int op) {
      switch (op) {
        case 'z':
        case 'j':
        case 'c':
        case 'r':
        case 't':
        case 'k':
        case 'e':
          return true;
        default:
          return false;
      }
    }

    /** Does a code, or answers its fault. */
    private int doCode(Call call, int op, int number) {
      int language = call.function.language;
      switch (op) {
        case 'n':
          stack.push().becomeNumber(language, number);
          return 0;
        case 'h':
          stack.push().becomeReal((double) number / 2.0);
          return 0;
        case 'l':
          stack.push().become(call.locals[number]);
          return 0;
        case 's':
          call.locals[number].become(stack.pop());
          return 0;
        case 'g':
          stack.push().become(heap.globalOf(language, number));
          return 0;
        case 'p':
          heap.storeGlobal(language, number, stack.pop());
          return 0;
        case 'o':
          return pushNewThing(language);
        case 'f':
          return readField(language, number);
        case 'q':
          return writeField(language, number);
        case '+':
        case '-':
        case '*':
        case '/':
        case '<':
        case '=':
          return combine(language, op);
        default:
          return NOT_THERE;
      }
    }

    /** Does a code that can go on at another place or in another call; its fault, or THROWN. */
    private int moveOn(Call call, int op, int number) {
      switch (op) {
        case 'z':
          if (stack.pop().isZeroOrNothing()) {
            call.next = number;
          }
          return 0;
        case 'j':
          call.next = number;
          return 0;
        case 'c':
          return enter(call.function.language, number);
        case 'r':
          carried.become(stack.pop());
          return endCall(call);
        case 't':
          thrown.become(stack.pop());
          return THROWN;
        case 'k':
          stack.push().becomeEscape(call.identity, number);
          return 0;
        case 'e':
          return escape();
        default:
          return NOT_THERE;
      }
    }

    private boolean isNotThere(Function function, int op, int number) {
      boolean isCedar = function.language == CEDAR;
      switch (op) {
        case 'h':
          return isCedar;
        case 'e':
          return !isCedar;
        case 'k':
          return !isCedar || !function.hasPlace(number);
        case 'z':
        case 'j':
          return !function.hasPlace(number);
        case 'l':
        case 's':
          return !isWithin(number, LOCALS);
        case 'g':
        case 'p':
          return !isWithin(number, GLOBALS);
        case 'f':
        case 'q':
          return !isWithin(number, FIELDS);
        case 'c':
          return !isWithin(number, functionCount);
        default:
          return false;
      }
    }

    private int popsOf(int op, int number) {
      switch (op) {
        case 's':
        case 'p':
        case 'z':
        case 'f':
        case 'r':
        case 't':
          return 1;
        case '+':
        case '-':
        case '*':
        case '/':
        case '<':
        case '=':
        case 'q':
        case 'e':
          return 2;
        case 'c':
          return isWithin(number, functionCount) ? functions[number].parameters : 0;
        default:
          return 0;
      }
    }

    private int crossInRun(Value value, int from, int to) {
      if (from != to) {
        crossed++;
      }
      return Border.cross(value, from, to);
    }

    private int combine(int language, int op) {
      Value upper = stack.under(0);
      Value lower = stack.under(1);
      boolean areNumbers = upper.isNumber() && lower.isNumber();
      if (op != '=' && !areNumbers) {
        return NOT_NEEDED_KIND;
      }
      int fault = 0;
      if (op == '=') {
        lower.becomeNumber(language, lower.isSameAs(upper) ? 1 : 0);
      } else if (op == '<') {
        lower.becomeNumber(language, lower.isLessThan(upper) ? 1 : 0);
      } else {
        fault = Sums.apply(op, lower, upper);
      }
      stack.pop();
      return fault;
    }

    private int pushNewThing(int language) {
      Thing thing = heap.newThing(language);
      if (thing == null) {
        return FULL;
      }
      stack.push().becomeReference(thing);
      return 0;
    }

    private int readField(int language, int field) {
      Value reference = stack.pop();
      if (!reference.isReference()) {
        return NOT_NEEDED_KIND;
      }
      Thing thing = reference.target;
      carried.become(thing.fields[field]);
      int fault = crossInRun(carried, thing.language, language);
      if (fault == 0) {
        stack.push().become(carried);
      }
      return fault;
    }

    private int writeField(int language, int field) {
      carried.become(stack.pop());
      Value reference = stack.pop();
      if (!reference.isReference()) {
        return NOT_NEEDED_KIND;
      }
      Thing thing = reference.target;
      int fault = crossInRun(carried, language, thing.language);
      if (fault == 0) {
        heap.storeField(thing, field, carried);
      }
      return fault;
    }

    private int enter(int callerLanguage, int number) {
      if (depth >= CALLS) {
        return FULL;
      }
      Function function = functions[number];
      Call call = calls[depth];
      lastIdentity++;
      call.begin(function, number, lastIdentity);
      for (int index = 0; index < function.parameters && index < LOCALS; index++) {
        Value local = call.locals[index];
        local.become(stack.under(function.parameters - 1 - index));
        int fault = crossInRun(local, callerLanguage, function.language);
        if (fault != 0) {
          return fault;
        }
      }
      stack.top -= function.parameters;
      call.base = stack.top;
      depth++;
      return 0;
    }

    /** Ends the innermost call with what is carried; its fault is one of the code that called. */
    private int endCall(Call ended) {
      stack.top = ended.base;
      depth--;
      if (depth < 1) {
        outcome = RETURNED;
        result.become(carried);
        return 0;
      }
      Function caller = calls[depth - 1].function;
      int fault = crossInRun(carried, ended.function.language, caller.language);
      if (fault == 0) {
        stack.push().become(carried);
      }
      return fault;
    }

    private int escape() {
      carried.become(stack.pop());
      Value escape = stack.pop();
      if (escape.kind != 'k') {
        return NOT_NEEDED_KIND;
      }
      int level = levelWithin(escape.whole);
      if (level < 0) {
        return CALL_OUT_OF_REACH;
      }
      depth = level + 1;
      goOn(calls[level], escape.place, carried);
      return 0;
    }

    /** The level of a call that only calls of Cedar are above, or -1. */
    private int levelWithin(long identity) {
      for (int level = depth - 1; level >= 0; level--) {
        if (calls[level].function.language != CEDAR) {
          return -1;
        }
        if (calls[level].identity == identity) {
          return level;
        }
      }
      return -1;
    }

    private void goOn(Call call, int place, Value value) {
      call.next = place;
      stack.top = call.base;
      stack.push().become(value);
    }

    /** Throws a fault, or what 't' has laid ready, in the innermost call. */
    private void raise(int fault) {
      if (depth < 1) {
        return;
      }
      int language = calls[depth - 1].function.language;
      if (fault != THROWN) {
        thrown.becomeNumber(language, fault);
      }
      traceLength = 0;
      beginThrowAt(depth - 1);
      for (int level = depth - 1; level >= 0; level--) {
        Call call = calls[level];
        int inPlace = crossInRun(thrown, language, call.function.language);
        language = call.function.language;
        if (inPlace != 0) {
          thrown.becomeNumber(language, inPlace);
          beginThrowAt(level);
        }
        if (call.function.takes(call.place, thrownLanguage)) {
          depth = level + 1;
          goOn(call, call.function.guardAt, thrown);
          return;
        }
      }
      depth = 0;
      outcome = LEFT_BY_THROW;
      result.become(thrown);
    }

    private void beginThrowAt(int innermost) {
      thrownLanguage = calls[innermost].function.language;
      for (int level = innermost; level >= 0 && traceLength < TRACE; level--) {
        traceRow[traceLength] = 100 * calls[level].functionNumber + calls[level].place;
        traceLength++;
      }
    }
  }
}
