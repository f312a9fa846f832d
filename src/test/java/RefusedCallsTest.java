import java.util.function.Consumer;
import java.util.function.Supplier;

/**
 * The rows "Throws .. if ..": for each one the last value that is allowed and the first one that is not, on both
 * sides, the exception that is listed first, and that a call that is refused has changed nothing.
 */
public final class RefusedCallsTest extends Checks {
  private static final int[] BELOW = {-1, -2, LEAST};
  private static final String OPS = "nhlsgp+-*/<=zjofqcrtke";

  private interface Put {
    void with(PolyglotPier x, int value);
  }

  /** Functions of all languages, one of them guarded, things of all, and a last run that a throw left. */
  private static PolyglotPier scene() {
    PolyglotPier x = new PolyglotPier();
    function(x, ASH, 1, "l0 c1 n1 + p6 g6 r");
    function(x, BIRCH, 2, "l0 n2 / n0 p6 o p7 l0 c2 r n5 r");
    function(x, CEDAR, 1, "l0 n9 q0 r");
    x.guard(1, 0, 9, 9, false);
    for (int language = ASH; language <= CEDAR; language++) {
      x.make(language, 0);
      x.set(language, 1, 7);
      x.put(language, 0, 2, 1);
      x.pass(language, 0, (language + 1) % LANGUAGES, 2);
      x.put((language + 1) % LANGUAGES, 2, 0, 2);
    }
    x.make(ASH, 3);
    x.set(ASH, 3, 0);
    x.run(0, 5, 0);
    return x;
  }

  /** A scene in which no function was added and nothing was made or run. */
  private static PolyglotPier empty() {
    return new PolyglotPier();
  }

  /** Each value below 0, and each one from the first that is too large on, is refused. */
  private static void refusedOutside(String what, Class<?> wanted, int tooLarge, Put call) {
    for (int value : BELOW) {
      refused(what + " " + value, wanted, RefusedCallsTest::scene, x -> call.with(x, value));
    }
    for (int value : new int[] {tooLarge, tooLarge + 1, MOST}) {
      refused(what + " " + value, wanted, RefusedCallsTest::scene, x -> call.with(x, value));
    }
  }

  private static void refusedByScene(String what, Class<?> wanted, Consumer<PolyglotPier> call) {
    refused(what, wanted, RefusedCallsTest::scene, call);
  }

  // ---- functions and runs

  // addFunction: "IllegalArgumentException if there is no such language".
  private static void addFunctionLanguage() {
    refusedOutside("addFunction, language", NO_ARGUMENT, 3, (x, v) -> x.addFunction(v, 0));
    PolyglotPier x = empty();
    due("addFunction, the first language", x.addFunction(0, 0), 0);
    due("addFunction, the last language", x.addFunction(2, 0), 1);
    due("of Ash", told(x, 0), "r u");
    due("of Cedar", told(x, 1), "r e");
  }

  // addFunction: ".. or the number is out of range", which is 0 to 2.
  private static void addFunctionParameters() {
    refusedOutside("addFunction, parameters", NO_ARGUMENT, 3, (x, v) -> x.addFunction(0, v));
    PolyglotPier x = empty();
    due("addFunction, 0 parameters", x.addFunction(0, 0), 0);
    due("addFunction, 2 parameters", x.addFunction(0, 2), 1);
  }

  private static PolyglotPier nineFunctions() {
    PolyglotPier x = scene();
    for (int i = 3; i < 9; i++) {
      x.addFunction(i % 3, i % 2);
    }
    return x;
  }

  // addFunction: "IllegalStateException if there are 9 functions".
  private static void addFunctionFull() {
    PolyglotPier x = empty();
    for (int i = 0; i < 9; i++) {
      due("addFunction, the last one is allowed", x.addFunction(i % 3, i % 3), i);
    }
    refused("addFunction, a 10th", NO_STATE, RefusedCallsTest::nineFunctions, y -> y.addFunction(0, 0));
    refused("addFunction, a 10th", NO_STATE, RefusedCallsTest::nineFunctions, y -> y.addFunction(2, 2));
    refused("addFunction, a 10th of no language", NO_ARGUMENT, RefusedCallsTest::nineFunctions, y -> y.addFunction(3, 0));
    refused("addFunction, a 10th of no language", NO_ARGUMENT, RefusedCallsTest::nineFunctions, y -> y.addFunction(-1, 0));
    refused("addFunction, a 10th of 3 parameters", NO_ARGUMENT, RefusedCallsTest::nineFunctions, y -> y.addFunction(0, 3));
    refused("addFunction, a 10th of -1 parameters", NO_ARGUMENT, RefusedCallsTest::nineFunctions, y -> y.addFunction(0, -1));
  }

  // code, guard and run: "IndexOutOfBoundsException if there is no such function".
  private static void noSuchFunction() {
    refusedOutside("code, function", NO_INDEX, 3, (x, v) -> x.code(v, 'n', 0));
    refusedOutside("guard, function", NO_INDEX, 3, (x, v) -> x.guard(v, 0, 0, 0, true));
    refusedOutside("run, function", NO_INDEX, 3, (x, v) -> x.run(v, 0, 0));
    refused("code, none", NO_INDEX, RefusedCallsTest::empty, x -> x.code(0, 'n', 0));
    refused("guard, none", NO_INDEX, RefusedCallsTest::empty, x -> x.guard(0, 0, 0, 0, true));
    refused("run, none", NO_INDEX, RefusedCallsTest::empty, x -> x.run(0, 0, 0));
    refused("code, 9 of 9", NO_INDEX, RefusedCallsTest::nineFunctions, x -> x.code(9, 'n', 0));
    refused("guard, 9 of 9", NO_INDEX, RefusedCallsTest::nineFunctions, x -> x.guard(9, 0, 0, 0, true));
    refused("run, 9 of 9", NO_INDEX, RefusedCallsTest::nineFunctions, x -> x.run(9, 0, 0));
    PolyglotPier x = nineFunctions();
    due("code, the first function", x.code(0, 'n', 0), 7);
    due("code, the last function", x.code(8, 'n', 0), 0);
    due("guard, the first function", x.guard(0, 0, 0, 0, true), false);
    due("guard, the last function", x.guard(8, 0, 0, 0, true), false);
    due("run, the last function", x.run(8, 0, 0), 'r');
    due("run, the first function", x.run(0, 0, 0), 'x');
  }

  // code: "IllegalArgumentException if there is no such op in any language".
  private static void noSuchOp() {
    PolyglotPier x = empty();
    int calls = 0;
    for (int sign = 0; sign <= Character.MAX_VALUE; sign++) {
      if (calls % 500 == 0) {
        x = empty();
        x.addFunction(sign % 3, 0);
      }
      calls++;
      PolyglotPier asked = x;
      char op = (char) sign;
      if (OPS.indexOf(op) < 0) {
        dueThrow("code, op " + sign, NO_ARGUMENT, () -> asked.code(0, op, 0));
      }
    }
    for (int i = 0; i < OPS.length(); i++) {
      for (int language = ASH; language <= CEDAR; language++) {
        PolyglotPier y = empty();
        y.addFunction(language, 0);
        due("code, op " + OPS.charAt(i) + " in " + language, y.code(0, OPS.charAt(i), 0), 0);
      }
    }
    for (char op : "y\0NRTKE% >".toCharArray()) {
      refusedByScene("code, op " + op, NO_ARGUMENT, y -> y.code(2, op, 0));
    }
  }

  // code: ".. or the number is less than -9999 or greater than 9999".
  private static void codeNumber() {
    for (int number : new int[] {-10000, -10001, LEAST, 10000, 10001, MOST}) {
      refusedByScene("code, number " + number, NO_ARGUMENT, x -> x.code(0, 'n', number));
      refusedByScene("code, number " + number, NO_ARGUMENT, x -> x.code(2, 'r', number));
    }
    for (int language = ASH; language <= CEDAR; language++) {
      due("code, the least number", come(language, "n-9999 r"), "r " + number(language, -9999));
      due("code, the greatest number", come(language, "n9999 r"), "r " + number(language, 9999));
    }
  }

  private static PolyglotPier twentyCodes() {
    PolyglotPier x = scene();
    x.addFunction(BIRCH, 0);
    fill(x, 3, idle(0, 19));
    x.code(3, 'n', 4);
    return x;
  }

  // code: "IllegalStateException if the function has 20 codes".
  private static void codeFull() {
    PolyglotPier x = empty();
    x.addFunction(ASH, 0);
    for (int i = 0; i < 20; i++) {
      due("code, the last one is allowed", x.code(0, 'n', i), i);
    }
    refused("code, a 21st", NO_STATE, RefusedCallsTest::twentyCodes, y -> y.code(3, 'r', 0));
    refused("code, a 21st that is no op", NO_ARGUMENT, RefusedCallsTest::twentyCodes, y -> y.code(3, 'y', 0));
    refused("code, a 21st of 10000", NO_ARGUMENT, RefusedCallsTest::twentyCodes, y -> y.code(3, 'r', 10000));
    refused("code, a 21st of no function", NO_INDEX, RefusedCallsTest::twentyCodes, y -> y.code(4, 'r', 0));
    due("code, another function is not full", twentyCodes().code(0, 'n', 0), 7);
    refusedByScene("code of no function, no op and no number", NO_INDEX, y -> y.code(3, 'y', 10000));
    refusedByScene("code of no function, no op", NO_INDEX, y -> y.code(-1, 'y', 0));
  }

  // guard: "IllegalArgumentException if a place is not from 0 to 19, -1 aside".
  private static void guardPlaces() {
    refusedOutside("guard, from", NO_ARGUMENT, 20, (x, v) -> x.guard(1, v, 19, 0, true));
    refusedOutside("guard, to", NO_ARGUMENT, 20, (x, v) -> x.guard(1, 0, v, 0, true));
    for (int at : new int[] {-2, -3, LEAST, 20, 21, MOST}) {
      refusedByScene("guard, at " + at, NO_ARGUMENT, x -> x.guard(1, 0, 0, at, true));
      refusedByScene("guard, none yet, at " + at, NO_ARGUMENT, x -> x.guard(0, 0, 0, at, true));
    }
    refusedByScene("guard, from 20 to 20", NO_ARGUMENT, x -> x.guard(1, 20, 20, 0, true));
    refusedByScene("guard, none, from 20 to 20", NO_ARGUMENT, x -> x.guard(1, 20, 20, -1, true));
    refusedByScene("guard, none, to 20", NO_ARGUMENT, x -> x.guard(1, 0, 20, -1, true));
    refusedByScene("guard of no function, places", NO_INDEX, x -> x.guard(3, -1, 20, 20, true));
    PolyglotPier x = scene();
    due("guard, the first places", x.guard(0, 0, 0, 0, true), false);
    due("guard, the last places", x.guard(0, 19, 19, 19, true), true);
    due("guard, all places", x.guard(0, 0, 19, 0, true), true);
    due("guard, -1", x.guard(0, 0, 19, -1, true), true);
  }

  // guard: ".. or the last one is less than the first one".
  private static void guardOrder() {
    for (int from = 0; from < 20; from++) {
      for (int to = 0; to < 20; to++) {
        PolyglotPier x = empty();
        x.addFunction(0, 0);
        int first = from;
        int last = to;
        Object wanted = to < from ? NO_ARGUMENT : Boolean.FALSE;
        due("guard, " + from + " to " + to, answer(() -> x.guard(0, first, last, 19, true)), wanted);
      }
    }
    refusedByScene("guard, 1 to 0", NO_ARGUMENT, x -> x.guard(1, 1, 0, 0, true));
    refusedByScene("guard, 19 to 18", NO_ARGUMENT, x -> x.guard(1, 19, 18, 0, false));
    refusedByScene("guard, none, 1 to 0", NO_ARGUMENT, x -> x.guard(1, 1, 0, -1, true));
    refusedByScene("guard of no function, order", NO_INDEX, x -> x.guard(-1, 1, 0, 0, true));
  }

  // guard: "Returns whether there was one".
  private static void guardReturns() {
    PolyglotPier x = empty();
    x.addFunction(ASH, 0);
    x.addFunction(ASH, 0);
    due("guard, none in place of none", x.guard(0, 0, 0, -1, true), false);
    due("guard, one in place of none", x.guard(0, 0, 0, 0, true), false);
    due("guard, one in place of one", x.guard(0, 0, 0, 0, false), true);
    due("guard, none in place of one", x.guard(0, 0, 0, -1, false), true);
    due("guard, one in place of none again", x.guard(0, 5, 5, 5, false), false);
    due("guard, another function", x.guard(1, 5, 5, 5, false), false);
  }

  private static PolyglotPier limited() {
    PolyglotPier x = scene();
    x.run(function(x, BIRCH, 0, "j0"), 0, 0);
    return x;
  }

  private static PolyglotPier returned(int language, String codes) {
    PolyglotPier x = scene();
    due("it returns", x.run(function(x, language, 0, codes), 0, 0), 'r');
    return x;
  }

  private static PolyglotPier threw(int language, String codes) {
    PolyglotPier x = scene();
    due("it throws", x.run(function(x, language, 0, codes), 0, 0), 'x');
    return x;
  }

  // resultKind: "NoSuchElementException if there was no run, or the limit ended it".
  private static void resultKind() {
    refused("resultKind, no run", NO_ELEMENT, RefusedCallsTest::empty, x -> x.resultKind());
    refused("resultKind, the limit", NO_ELEMENT, RefusedCallsTest::limited, x -> x.resultKind());
    String[] all = {"0h1 r", "1h2 r", "1n1 r", "2n1 r", "0l0 r", "1l0 r", "2l0 r", "2k0 r", "0o r", "1o r", "2o r"};
    String kinds = "ddijunekttt";
    for (int i = 0; i < all.length; i++) {
      int language = all[i].charAt(0) - '0';
      String codes = all[i].substring(1);
      due("resultKind, returned " + codes, returned(language, codes).resultKind(), kinds.charAt(i));
      due("resultKind, thrown " + codes, threw(language, codes.replace('r', 't')).resultKind(), kinds.charAt(i));
    }
    PolyglotPier x = returned(ASH, "");
    x.pass(BIRCH, 5, ASH, 5);
    due("resultKind, the other nothing", told(x, function(x, ASH, 0, "g5 r")), "r n");
  }

  // resultNumber: "NoSuchElementException if there is no number".
  private static void resultNumber() {
    refused("resultNumber, no run", NO_ELEMENT, RefusedCallsTest::empty, x -> x.resultNumber());
    refused("resultNumber, the limit", NO_ELEMENT, RefusedCallsTest::limited, x -> x.resultNumber());
    refused("resultNumber, u", NO_ELEMENT, () -> returned(ASH, ""), x -> x.resultNumber());
    refused("resultNumber, n", NO_ELEMENT, () -> returned(BIRCH, ""), x -> x.resultNumber());
    refused("resultNumber, e", NO_ELEMENT, () -> returned(CEDAR, ""), x -> x.resultNumber());
    refused("resultNumber, an escape", NO_ELEMENT, () -> returned(CEDAR, "k0 r"), x -> x.resultNumber());
    for (int language = ASH; language <= CEDAR; language++) {
      int home = language;
      refused("resultNumber, a reference", NO_ELEMENT, () -> returned(home, "o r"), x -> x.resultNumber());
      refused("resultNumber, a nothing thrown", NO_ELEMENT, () -> threw(home, "l0 t"), x -> x.resultNumber());
      due("resultNumber, returned", returned(language, "n-3 r").resultNumber(), -3.0);
      due("resultNumber, thrown", threw(language, "n-3 t").resultNumber(), -3.0);
    }
    due("resultNumber, converted to double",
        returned(CEDAR, "n2048 s0 l0 l0 * s0 l0 l0 * n512 * s0 l0 n1 + r").resultNumber(), 9007199254740992.0);
  }

  // resultWhole: "NoSuchElementException if it is no int, no long and no reference".
  private static void resultWhole() {
    refused("resultWhole, no run", NO_ELEMENT, RefusedCallsTest::empty, x -> x.resultWhole());
    refused("resultWhole, the limit", NO_ELEMENT, RefusedCallsTest::limited, x -> x.resultWhole());
    refused("resultWhole, a double", NO_ELEMENT, () -> returned(ASH, "n1 r"), x -> x.resultWhole());
    refused("resultWhole, a double of Birch", NO_ELEMENT, () -> returned(BIRCH, "h2 r"), x -> x.resultWhole());
    refused("resultWhole, u", NO_ELEMENT, () -> returned(ASH, ""), x -> x.resultWhole());
    refused("resultWhole, n", NO_ELEMENT, () -> returned(BIRCH, ""), x -> x.resultWhole());
    refused("resultWhole, e", NO_ELEMENT, () -> returned(CEDAR, ""), x -> x.resultWhole());
    refused("resultWhole, an escape", NO_ELEMENT, () -> returned(CEDAR, "k0 r"), x -> x.resultWhole());
    refused("resultWhole, an escape thrown", NO_ELEMENT, () -> threw(CEDAR, "k0 t"), x -> x.resultWhole());
    due("resultWhole, an int", returned(BIRCH, "n-3 r").resultWhole(), -3L);
    due("resultWhole, a long", returned(CEDAR, "n-3 r").resultWhole(), -3L);
    for (int language = ASH; language <= CEDAR; language++) {
      PolyglotPier x = returned(language, "o r");
      due("resultWhole, a reference", x.resultWhole(), x.made() - 1L);
    }
  }

  // trace, traceAt and thrownIn: "NoSuchElementException if no throw left it".
  private static void noThrow() {
    for (int i = 0; i < 4; i++) {
      Supplier<PolyglotPier> made = i == 0 ? RefusedCallsTest::empty : i == 1 ? RefusedCallsTest::limited
          : i == 2 ? () -> returned(ASH, "n1 r") : RefusedCallsTest::caught;
      refused("trace, no throw " + i, NO_ELEMENT, made, x -> x.trace());
      refused("thrownIn, no throw " + i, NO_ELEMENT, made, x -> x.thrownIn());
      for (int index : new int[] {0, 1, -1, 99, LEAST, MOST}) {
        refused("traceAt, no throw " + i, NO_ELEMENT, made, x -> x.traceAt(index));
      }
    }
  }

  /** A throw was taken in the last run, which returned. */
  private static PolyglotPier caught() {
    PolyglotPier x = scene();
    x.guard(function(x, ASH, 0, "r r"), 0, 0, 1, true);
    due("a throw is taken", told(x, 3), "r d 3.0");
    return x;
  }

  // traceAt: "IndexOutOfBoundsException if there is no such index".
  private static void traceIndex() {
    PolyglotPier x = threw(ASH, "t");
    due("a trace of one", x.trace(), 1);
    due("traceAt, the first and last one", x.traceAt(0), 300);
    refused("traceAt, 1 of 1", NO_INDEX, () -> threw(ASH, "t"), y -> y.traceAt(1));
    PolyglotPier twelve = twelveCalls();
    due("a trace of 12", twelve.trace(), 12);
    due("traceAt, the first one of 12", twelve.traceAt(0), 2);
    due("traceAt, the last one of 12", twelve.traceAt(11), 2);
    refused("traceAt, 12 of 12", NO_INDEX, RefusedCallsTest::twelveCalls, y -> y.traceAt(12));
    refused("traceAt, -1 of 12", NO_INDEX, RefusedCallsTest::twelveCalls, y -> y.traceAt(-1));
    refused("traceAt, 23 of 12", NO_INDEX, RefusedCallsTest::twelveCalls, y -> y.traceAt(23));
    refused("traceAt, the least", NO_INDEX, RefusedCallsTest::twelveCalls, y -> y.traceAt(LEAST));
    refused("traceAt, the greatest", NO_INDEX, RefusedCallsTest::twelveCalls, y -> y.traceAt(MOST));
  }

  private static PolyglotPier twelveCalls() {
    PolyglotPier x = empty();
    due("12 calls and another one", told(x, function(x, CEDAR, 0, "n1 n2 c0")), "x j 7");
    return x;
  }

  // ---- globals and things

  // All of them: "IndexOutOfBoundsException if there is no such language or global".
  private static void noSuchLanguage() {
    refusedOutside("set, language", NO_INDEX, 3, (x, v) -> x.set(v, 0, 1));
    refusedOutside("make, language", NO_INDEX, 3, (x, v) -> x.make(v, 0));
    refusedOutside("pass, language", NO_INDEX, 3, (x, v) -> x.pass(v, 1, 0, 5));
    refusedOutside("pass, other", NO_INDEX, 3, (x, v) -> x.pass(0, 1, v, 5));
    refusedOutside("put, language", NO_INDEX, 3, (x, v) -> x.put(v, 0, 1, 1));
    refusedOutside("get, language", NO_INDEX, 3, (x, v) -> x.get(v, 0, 2, 5));
    refusedOutside("kindOf, language", NO_INDEX, 3, (x, v) -> x.kindOf(v, 0));
    refusedOutside("numberOf, language", NO_INDEX, 3, (x, v) -> x.numberOf(v, 0));
    refusedOutside("equal, language", NO_INDEX, 3, (x, v) -> x.equal(v, 0, 0));
    refusedOutside("things, language", NO_INDEX, 3, (x, v) -> x.things(v));
  }

  private static void noSuchGlobal() {
    for (int i = ASH; i <= CEDAR; i++) {
      int language = i;
      int other = (i + 1) % LANGUAGES;
      refusedOutside("set, global", NO_INDEX, 8, (x, v) -> x.set(language, v, 1));
      refusedOutside("make, global", NO_INDEX, 8, (x, v) -> x.make(language, v));
      refusedOutside("pass, global", NO_INDEX, 8, (x, v) -> x.pass(language, v, other, 5));
      refusedOutside("pass, into", NO_INDEX, 8, (x, v) -> x.pass(language, 1, other, v));
      refusedOutside("put, global", NO_INDEX, 8, (x, v) -> x.put(language, v, 1, 1));
      refusedOutside("put, from", NO_INDEX, 8, (x, v) -> x.put(language, 0, 1, v));
      refusedOutside("get, global", NO_INDEX, 8, (x, v) -> x.get(language, v, 2, 5));
      refusedOutside("get, into", NO_INDEX, 8, (x, v) -> x.get(language, 0, 2, v));
      refusedOutside("kindOf, global", NO_INDEX, 8, (x, v) -> x.kindOf(language, v));
      refusedOutside("numberOf, global", NO_INDEX, 8, (x, v) -> x.numberOf(language, v));
      refusedOutside("equal, global", NO_INDEX, 8, (x, v) -> x.equal(language, v, 0));
      refusedOutside("equal, other", NO_INDEX, 8, (x, v) -> x.equal(language, 0, v));
    }
  }

  // "Each language has the globals 0 to 7": the first and the last one of each are good everywhere.
  private static void firstAndLastGlobal() {
    for (int language = ASH; language <= CEDAR; language++) {
      PolyglotPier x = empty();
      due("set, 0", x.set(language, 0, -1), 0);
      due("set, 7", x.set(language, 7, -2), 0);
      due("numberOf, 0", x.numberOf(language, 0), -1.0);
      due("numberOf, 7", x.numberOf(language, 7), -2.0);
      due("pass, 0 to 7", x.pass(language, 0, language, 7), 0);
      due("equal, 0 and 7", x.equal(language, 0, 7), true);
      due("equal, 7 and 0", x.equal(language, 7, 0), true);
      due("make, 0", x.make(language, 0), 0);
      due("make, 7", x.make(language, 7), 1);
      due("put, 0 from 7", x.put(language, 0, 0, 7), 0);
      due("put, 7 from 0", x.put(language, 7, 2, 0), 0);
      due("get, 7 into 0", x.get(language, 7, 2, 0), 0);
      due("get, 0 into 7", x.get(language, 0, 0, 7), 0);
      due("kindOf, 0", x.kindOf(language, 0), 't');
      due("numberOf, 0", x.numberOf(language, 0), 0.0);
      due("numberOf, 7", x.numberOf(language, 7), 1.0);
      for (int i = 0; i < 24; i++) {
        boolean isSet = i == language * 8 || i == language * 8 + 7;
        due("no other global is set", x.kindOf(i / 8, i % 8), isSet ? 't' : nothing(i / 8));
      }
    }
  }

  // put and get: "IndexOutOfBoundsException if there is no such .. field", which is 0 to 2.
  private static void noSuchField() {
    for (int i = ASH; i <= CEDAR; i++) {
      int language = i;
      refusedOutside("put, field", NO_INDEX, 3, (x, v) -> x.put(language, 0, v, 1));
      refusedOutside("put, field, no thing", NO_INDEX, 3, (x, v) -> x.put(language, 1, v, 1));
      refusedOutside("get, field", NO_INDEX, 3, (x, v) -> x.get(language, 0, v, 5));
      refusedOutside("get, field, no thing", NO_INDEX, 3, (x, v) -> x.get(language, 1, v, 5));
      PolyglotPier x = empty();
      x.make(language, 0);
      for (int field = 0; field < 3; field++) {
        x.set(language, 1, field);
        due("put, field", x.put(language, 0, field, 1), 0);
      }
      for (int field = 0; field < 3; field++) {
        due("get, field", x.get(language, 0, field, 2), 0);
        due("get, field", x.numberOf(language, 2), (double) field);
      }
    }
  }

  // put and get: "UnsupportedOperationException if the global does not refer to a thing".
  private static void noThing() {
    for (int i = ASH; i <= CEDAR; i++) {
      int language = i;
      refusedByScene("put, a number", NO_OPERATION, x -> x.put(language, 1, 0, 0));
      refusedByScene("get, a number", NO_OPERATION, x -> x.get(language, 1, 0, 5));
      refusedByScene("put, a nothing", NO_OPERATION, x -> x.put(language, 5, 0, 5));
      refusedByScene("get, a nothing", NO_OPERATION, x -> x.get(language, 5, 0, 5));
      refusedByScene("put, a number, no such from", NO_INDEX, x -> x.put(language, 1, 0, 8));
      refusedByScene("get, a number, no such into", NO_INDEX, x -> x.get(language, 1, 0, -1));
    }
    refused("put, an escape", NO_OPERATION, RefusedCallsTest::withEscape, x -> x.put(CEDAR, 3, 0, 1));
    refused("get, an escape", NO_OPERATION, RefusedCallsTest::withEscape, x -> x.get(CEDAR, 3, 0, 1));
  }

  /** Global 3 of Cedar is an escape, and field 1 of the thing of Cedar in global 0 too. */
  private static PolyglotPier withEscape() {
    PolyglotPier x = scene();
    x.run(function(x, CEDAR, 0, "k0 p3 g0 g3 q1 n7 t"), 0, 0);
    return x;
  }

  // numberOf: "NoSuchElementException if it is neither a number nor a reference".
  private static void numberOfNone() {
    for (int i = ASH; i <= CEDAR; i++) {
      int language = i;
      refusedByScene("numberOf, a nothing", NO_ELEMENT, x -> x.numberOf(language, 5));
      due("numberOf, a number", scene().numberOf(language, 1), 7.0);
      due("numberOf, a reference", scene().numberOf(language, 0), (double) language);
    }
    refused("numberOf, an escape", NO_ELEMENT, RefusedCallsTest::withEscape, x -> x.numberOf(CEDAR, 3));
    refused("numberOf, the other nothing", NO_ELEMENT, RefusedCallsTest::withOtherNothing, x -> x.numberOf(ASH, 3));
    due("kindOf, the other nothing", withOtherNothing().kindOf(ASH, 3), 'n');
  }

  private static PolyglotPier withOtherNothing() {
    PolyglotPier x = scene();
    x.pass(CEDAR, 5, ASH, 3);
    return x;
  }

  private static PolyglotPier full() {
    PolyglotPier x = empty();
    for (int i = 0; i < 60; i++) {
      x.make(i % 2 + 1, 0);
    }
    x.set(BIRCH, 0, 0);
    x.set(CEDAR, 0, 0);
    return x;
  }

  // make: "IllegalStateException if there are 60 things, whatever could be freed".
  private static void makeFull() {
    PolyglotPier x = empty();
    for (int i = 0; i < 59; i++) {
      x.make(BIRCH, i % 8);
    }
    due("make, the 60th is allowed", x.make(ASH, 0), 59);
    due("60 things", x.things(ASH) + x.things(BIRCH) + x.things(CEDAR), 60);
    for (int i = ASH; i <= CEDAR; i++) {
      int language = i;
      refused("make, a 61st, though all could be freed", NO_STATE, RefusedCallsTest::full, y -> y.make(language, 3));
      refused("make, a 61st of no global", NO_INDEX, RefusedCallsTest::full, y -> y.make(language, 8));
      refused("make, a 61st of no global", NO_INDEX, RefusedCallsTest::full, y -> y.make(language, -1));
    }
    refused("make, a 61st of no language", NO_INDEX, RefusedCallsTest::full, y -> y.make(3, 0));
    refused("make, in place of the one thing of Ash", NO_STATE, RefusedCallsTest::fullOfAsh, y -> y.make(ASH, 0));
    PolyglotPier y = full();
    due("collect", y.collect(), 60);
    due("make, behind it", y.make(ASH, 0), 60);
  }

  /** 60 things, of which the one in global 0 of Ash would be freed if another one were made there. */
  private static PolyglotPier fullOfAsh() {
    PolyglotPier x = empty();
    for (int i = 0; i < 59; i++) {
      x.make(CEDAR, i % 8);
    }
    x.make(ASH, 0);
    return x;
  }

  // pass, put and get: "Returns 0, or the fault if it cannot cross, by which nothing changes".
  private static void faultsChangeNothing() {
    for (int i = ASH; i <= BIRCH; i++) {
      int other = i;
      unchanged("pass, an escape", 5, RefusedCallsTest::withEscape, x -> x.pass(CEDAR, 3, other, 0));
      unchanged("pass, an escape", 5, RefusedCallsTest::withEscape, x -> x.pass(CEDAR, 3, other, 7));
    }
    // Global 2 of Ash refers to the thing of Cedar, and that of Cedar to the one of Birch.
    unchanged("put, an escape", 5, RefusedCallsTest::withEscape, x -> x.put(CEDAR, 2, 0, 3));
    unchanged("get, an escape", 5, RefusedCallsTest::withEscape, x -> x.get(ASH, 2, 1, 0));
    unchanged("pass, half", 4, RefusedCallsTest::withHalf, x -> x.pass(ASH, 3, CEDAR, 0));
    unchanged("pass, half", 4, RefusedCallsTest::withHalf, x -> x.pass(ASH, 3, CEDAR, 7));
    unchanged("put, half", 4, RefusedCallsTest::withHalf, x -> x.put(ASH, 2, 0, 3));
    unchanged("get, half", 4, RefusedCallsTest::withHalf, x -> x.get(CEDAR, 3, 1, 0));
  }

  /** Global 3 of Ash is a half, and field 1 of the thing of Ash that global 3 of Cedar refers to as well. */
  private static PolyglotPier withHalf() {
    PolyglotPier x = scene();
    x.pass(ASH, 0, CEDAR, 3);
    x.run(function(x, ASH, 0, "h1 p3 g0 h1 q1 n7 t"), 0, 0);
    return x;
  }

  // ---- heaps and figures

  // isThere, count and isHeld: "IndexOutOfBoundsException if there was no such thing".
  private static void noSuchThing() {
    refusedOutside("isThere", NO_INDEX, 4, (x, v) -> x.isThere(v));
    refusedOutside("count", NO_INDEX, 4, (x, v) -> x.count(v));
    refusedOutside("isHeld", NO_INDEX, 4, (x, v) -> x.isHeld(v));
    refused("isThere, none", NO_INDEX, RefusedCallsTest::empty, x -> x.isThere(0));
    refused("count, none", NO_INDEX, RefusedCallsTest::empty, x -> x.count(0));
    refused("isHeld, none", NO_INDEX, RefusedCallsTest::empty, x -> x.isHeld(0));
    refused("isThere, the 61st", NO_INDEX, RefusedCallsTest::full, x -> x.isThere(60));
    refused("count, the 61st", NO_INDEX, RefusedCallsTest::full, x -> x.count(60));
    refused("isHeld, the 61st", NO_INDEX, RefusedCallsTest::full, x -> x.isHeld(60));
    PolyglotPier x = full();
    due("isThere, the first one", x.isThere(0), true);
    due("isThere, the last one", x.isThere(59), true);
    due("count, the first one", x.count(0), 0);
    due("count, the last one", x.count(59), 0);
    due("isHeld, the first one", x.isHeld(0), false);
    due("isHeld, the last one", x.isHeld(59), false);
  }

  // count and isHeld: "NoSuchElementException if it is freed".
  private static void freedThing() {
    due("isThere, a freed one", scene().isThere(3), false);
    refusedByScene("count, a freed one", NO_ELEMENT, x -> x.count(3));
    refusedByScene("isHeld, a freed one", NO_ELEMENT, x -> x.isHeld(3));
    refused("count, its room is used again", NO_ELEMENT, RefusedCallsTest::usedAgain, x -> x.count(0));
    refused("isHeld, its room is used again", NO_ELEMENT, RefusedCallsTest::usedAgain, x -> x.isHeld(0));
    due("isThere, its room is used again", usedAgain().isThere(0), false);
    due("count, the next one", usedAgain().count(1), 1);
  }

  private static PolyglotPier usedAgain() {
    PolyglotPier x = empty();
    x.make(ASH, 0);
    x.set(ASH, 0, 0);
    x.make(ASH, 0);
    return x;
  }

  // freedShare: "ArithmeticException if none was made".
  private static void freedShare() {
    refused("freedShare, none", NO_ARITHMETIC, RefusedCallsTest::empty, x -> x.freedShare());
    refused("freedShare, none, behind a run and collections", NO_ARITHMETIC, () -> {
      PolyglotPier x = empty();
      x.run(function(x, ASH, 0, "n1 r"), 0, 0);
      x.collect();
      x.collectRings();
      return x;
    }, x -> x.freedShare());
    PolyglotPier x = empty();
    x.make(ASH, 0);
    due("freedShare, one", x.freedShare(), 0.0f);
    x.set(ASH, 0, 0);
    due("freedShare, one that is freed", x.freedShare(), 1.0f);
    x.make(ASH, 0);
    x.make(ASH, 1);
    due("freedShare, one of three", x.freedShare(), 1.0f / 3.0f);
    x.set(ASH, 0, 0);
    due("freedShare, two of three", x.freedShare(), 2.0f / 3.0f);
  }

  public static void main(String[] args) {
    addFunctionLanguage();
    addFunctionParameters();
    addFunctionFull();
    noSuchFunction();
    noSuchOp();
    codeNumber();
    codeFull();
    guardPlaces();
    guardOrder();
    guardReturns();
    resultKind();
    resultNumber();
    resultWhole();
    noThrow();
    traceIndex();
    noSuchLanguage();
    noSuchGlobal();
    firstAndLastGlobal();
    noSuchField();
    noThing();
    numberOfNone();
    makeFull();
    faultsChangeNothing();
    noSuchThing();
    freedThing();
    freedShare();
    end();
  }
}
