import java.util.function.Consumer;
import java.util.function.Supplier;

/** What the tests have in common; it has no main, as it is no test itself. */
class Checks {
  static final int ASH = 0;
  static final int BIRCH = 1;
  static final int CEDAR = 2;
  static final int LANGUAGES = 3;
  static final int LEAST = Integer.MIN_VALUE;
  static final int MOST = Integer.MAX_VALUE;
  static final Class<?> NO_INDEX = IndexOutOfBoundsException.class;
  static final Class<?> NO_ARGUMENT = IllegalArgumentException.class;
  static final Class<?> NO_STATE = IllegalStateException.class;
  static final Class<?> NO_ELEMENT = java.util.NoSuchElementException.class;
  static final Class<?> NO_OPERATION = UnsupportedOperationException.class;
  static final Class<?> NO_ARITHMETIC = ArithmeticException.class;

  private static int checks = 0;
  private static int wrong = 0;

  interface Ask {
    Object now();
  }

  static void due(String what, Object got, Object wanted) {
    checks++;
    if (!got.equals(wanted)) {
      wrong++;
      System.out.println(what + " answered " + got + ", due is " + wanted);
    }
  }

  static void dueThrow(String what, Class<?> wanted, Ask ask) {
    due(what, answer(ask), wanted);
  }

  /** What is answered, or the class of what is thrown. */
  static Object answer(Ask ask) {
    try {
      return ask.now();
    } catch (RuntimeException e) {
      return e.getClass();
    }
  }

  /** Ends the program, with exit code 1 if an answer was not the one that is due. */
  static void end() {
    System.out.println(checks + " checks, " + wrong + " wrong");
    if (wrong != 0) {
      System.exit(1);
    }
  }

  /** Adds a function with codes as in "l0 n-2 + r". */
  static int function(PolyglotPier x, int language, int parameters, String codes) {
    int function = x.addFunction(language, parameters);
    fill(x, function, codes);
    return function;
  }

  static void fill(PolyglotPier x, int function, String codes) {
    for (String token : codes.trim().split(" +")) {
      if (!token.isEmpty()) {
        x.code(function, token.charAt(0), token.length() > 1 ? Integer.parseInt(token.substring(1)) : 0);
      }
    }
  }

  /** So many times these codes. */
  static String times(int count, String codes) {
    return (codes + " ").repeat(count);
  }

  /** Codes of which each one only goes on to the next place, from a place up to one below another. */
  static String idle(int from, int to) {
    StringBuilder codes = new StringBuilder();
    for (int place = from; place < to; place++) {
      codes.append('j').append(place + 1).append(' ');
    }
    return codes.toString();
  }

  /** What a run of codes with two arguments comes to, as in "r i 5", "x d 3.0", "r e" or "l". */
  static String come(int language, String codes, int first, int second) {
    PolyglotPier x = new PolyglotPier();
    return told(x, function(x, language, 2, codes), first, second);
  }

  static String come(int language, String codes) {
    return come(language, codes, 0, 0);
  }

  static String told(PolyglotPier x, int function) {
    return told(x, function, 0, 0);
  }

  static String told(PolyglotPier x, int function, int first, int second) {
    char outcome = x.run(function, first, second);
    if (outcome == 'l') {
      return "l";
    }
    char kind = x.resultKind();
    String told = outcome + " " + kind;
    if (kind == 'd') {
      return told + " " + x.resultNumber();
    }
    return kind == 'i' || kind == 'j' || kind == 't' ? told + " " + x.resultWhole() : told;
  }

  /** A number as told() has it for a language. */
  static String number(int language, int number) {
    return language == ASH ? "d " + (double) number : (language == BIRCH ? "i " : "j ") + number;
  }

  /** What a fault comes to that leaves a run whose outmost call is of a language. */
  static String fault(int language, int fault) {
    return "x " + number(language, fault);
  }

  static char nothing(int language) {
    return "une".charAt(language);
  }

  static String trace(PolyglotPier x) {
    StringBuilder trace = new StringBuilder();
    for (int i = 0; i < x.trace(); i++) {
      trace.append(x.traceAt(i)).append(' ');
    }
    return trace.toString().trim();
  }

  // ---- calls that are refused

  /** A call on one of two equal objects must throw, and both must answer alike behind it. */
  static void refused(String what, Class<?> wanted, Supplier<PolyglotPier> scene, Consumer<PolyglotPier> call) {
    PolyglotPier asked = scene.get();
    dueThrow(what, wanted, () -> {
      call.accept(asked);
      return "nothing thrown";
    });
    due(what + ", refused, and what changed by it", state(asked), state(scene.get()));
  }

  /** A call on one of two equal objects must answer this, and both must answer alike behind it. */
  static void unchanged(String what, Object wanted, Supplier<PolyglotPier> scene, java.util.function.Function<PolyglotPier, Object> call) {
    PolyglotPier asked = scene.get();
    due(what, answer(() -> call.apply(asked)), wanted);
    due(what + ", and what changed by it", state(asked), state(scene.get()));
  }

  /** All that x tells, and last what its functions do when they run, which changes it. */
  static String state(PolyglotPier x) {
    StringBuilder state = new StringBuilder();
    tell(state, "run", () -> x.resultKind(), () -> x.resultNumber(), () -> x.resultWhole(), () -> x.trace());
    tell(state, "throw", () -> x.thrownIn(), () -> trace(x));
    tell(state, "figures", () -> x.made(), () -> x.freed(), () -> x.crossings(), () -> x.freedShare(), () -> x.isSound());
    tell(state, "things", () -> x.things(ASH), () -> x.things(BIRCH), () -> x.things(CEDAR));
    for (int i = 0; i < x.made(); i++) {
      int thing = i;
      tell(state, "thing", () -> x.isThere(thing), () -> x.count(thing), () -> x.isHeld(thing));
    }
    for (int i = 0; i < 24; i++) {
      int language = i / 8;
      int global = i % 8;
      tell(state, "global", () -> x.kindOf(language, global), () -> x.numberOf(language, global),
          () -> x.equal(language, global, 7 - global));
    }
    tellFields(state, x);
    tellFunctions(state, x);
    return state.toString();
  }

  private static void tellFields(StringBuilder state, PolyglotPier x) {
    for (int i = 0; i < 24; i++) {
      int language = i / 8;
      int global = i % 8;
      for (int f = 0; f < 3 && x.kindOf(language, global) == 't'; f++) {
        int field = f;
        tell(state, "field", () -> x.get(language, global, field, (global + 1) % 8),
            () -> x.kindOf(language, (global + 1) % 8), () -> x.numberOf(language, (global + 1) % 8));
      }
    }
  }

  private static void tellFunctions(StringBuilder state, PolyglotPier x) {
    for (int i = 0; i < 9; i++) {
      int function = i;
      tell(state, "function", () -> told(x, function, 3, 4), () -> trace(x), () -> x.crossings(),
          () -> x.guard(function, 0, 0, -1, false), () -> x.code(function, 'n', 0));
    }
    tell(state, "functions", () -> x.addFunction(ASH, 0));
  }

  private static void tell(StringBuilder state, String part, Ask... asks) {
    state.append(part);
    for (Ask ask : asks) {
      state.append(' ').append(answer(ask));
    }
    state.append('\n');
  }
}
