/**
 * "Faults and throws": for each sentence of the document that names a boundary case the last case on the one side and
 * the first one on the other.
 */
public final class FaultsTest extends Checks {
  private static final String POPS_NONE = "nlgojh";
  // A long that is no int, and of which there is no double.
  private static final String ODD = "n9999 s2 l2 l2 * s2 l2 l2 *";

  // ---- the faults

  // "A fault throws its number, as one of the language of the call".
  private static void numbersOfFaults() {
    due("1", come(BIRCH, "l0 l0 + r", MOST, 0), "x i 1");
    due("2 in Birch", come(BIRCH, "n1 n0 /"), "x i 2");
    due("2 in Cedar", come(CEDAR, "n1 n0 /"), "x j 2");
    for (int language = ASH; language <= CEDAR; language++) {
      due("3", come(language, "r"), fault(language, 3));
      due("8", come(language, "g8"), fault(language, 8));
      PolyglotPier x = new PolyglotPier();
      due("7", told(x, function(x, language, 0, "c0")), fault(language, 7));
      PolyglotPier y = new PolyglotPier();
      int abroad = function(y, language == CEDAR ? BIRCH : CEDAR, 1, "l0 r");
      int four = function(y, language, 0, (language == CEDAR ? ODD + " n1 +" : "h1") + " c" + abroad + " r");
      due("4", told(y, four), fault(language, 4));
      int escape = function(y, CEDAR, 0, "k0 r");
      due("5", told(y, function(y, language, 0, "c" + escape + " r")), language == CEDAR ? "r k" : fault(language, 5));
    }
    PolyglotPier z = new PolyglotPier();
    z.run(function(z, CEDAR, 0, "k1 p0"), 0, 0);
    due("6", told(z, function(z, CEDAR, 0, "g0 n1 e")), "x j 6");
  }

  // "3 if .. the stack has too few": one below of what is popped, none, and just enough.
  private static void tooFew() {
    String[] ones = {"s0", "p0", "z1", "r", "t"};
    String[] twos = {"+", "-", "*", "/", "<", "="};
    for (int language = ASH; language <= CEDAR; language++) {
      for (String op : ones) {
        due(op + " of none", come(language, op), fault(language, 3));
        due(op + " of one", come(language, "n1 " + op).endsWith(fault(language, 3).substring(2)), false);
      }
      for (String op : twos) {
        due(op + " of none", come(language, op), fault(language, 3));
        due(op + " of one", come(language, "n1 " + op), fault(language, 3));
        due(op + " of two", come(language, "n1 n1 " + op), "r " + nothing(language));
      }
      due("f of none", come(language, "f0"), fault(language, 3));
      due("f of one", come(language, "o f0"), "r " + nothing(language));
      due("q of none", come(language, "q0"), fault(language, 3));
      due("q of one", come(language, "o q0"), fault(language, 3));
      due("q of two", come(language, "o n1 q0"), "r " + nothing(language));
      for (char op : POPS_NONE.toCharArray()) {
        if (language != CEDAR || op != 'h') {
          due(op + " of none", come(language, op + "1"), "r " + nothing(language));
        }
      }
    }
    due("e of none", come(CEDAR, "e"), "x j 3");
    due("e of one", come(CEDAR, "k2 e"), "x j 3");
    due("e of two", come(CEDAR, "k3 n1 e"), "r e");
    due("k of none", come(CEDAR, "k1"), "r e");
  }

  // "3 if a value is not the kind that the op needs": the lower one, the upper one, and each kind of value.
  private static void kindsOfValues() {
    String[][] noNumbers = {{"l3", "o"}, {"l3", "o"}, {"l3", "o", "k0"}};
    for (int language = ASH; language <= CEDAR; language++) {
      for (String none : noNumbers[language]) {
        for (String op : new String[] {"+", "-", "*", "/", "<"}) {
          due(op + " of a lower " + none, come(language, none + " n1 " + op), fault(language, 3));
          due(op + " of an upper " + none, come(language, "n1 " + none + " " + op), fault(language, 3));
          due(op + " of two " + none, come(language, none + " " + none + " " + op), fault(language, 3));
        }
        due("= of " + none, come(language, none + " n1 = r"), "r " + number(language, 0));
        due("z of " + none, come(language, none + " z2"), "r " + nothing(language));
        due("s of " + none, come(language, none + " s0"), "r " + nothing(language));
        due("p of " + none, come(language, none + " p0"), "r " + nothing(language));
        due("q's value of " + none, come(language, "o " + none + " q0"), "r " + nothing(language));
      }
      for (String none : new String[] {"n0", "n1", "l3", language == CEDAR ? "k0" : "h1"}) {
        due("f of " + none, come(language, none + " f0"), fault(language, 3));
        due("q's reference of " + none, come(language, none + " n1 q0"), fault(language, 3));
        due("q, turned", come(language, none + " o q0"), fault(language, 3));
      }
    }
    PolyglotPier x = new PolyglotPier();
    x.pass(BIRCH, 7, ASH, 7);
    due("+ of the other nothing", told(x, function(x, ASH, 0, "g7 n1 +")), "x d 3.0");
    for (String none : new String[] {"n0", "l3", "o"}) {
      due("e of " + none, come(CEDAR, none + " n1 e"), "x j 3");
      due("e, turned", come(CEDAR, none + " k0 e"), "x j 3");
    }
  }

  // "7 if there are 12 calls".
  private static void twelveCalls() {
    for (int language = ASH; language <= CEDAR; language++) {
      PolyglotPier x = new PolyglotPier();
      int down = function(x, language, 1, "l0 z6 l0 n1 - c0 n9 r");
      due("11 calls", told(x, down, 10, 0), "r " + number(language, 9));
      due("12 calls", told(x, down, 11, 0), "r " + number(language, 9));
      due("13 calls", told(x, down, 12, 0), fault(language, 7));
      due("the trace has 12", x.trace(), 12);
      due("12 calls again", told(x, down, 11, 0), "r " + number(language, 9));
      int next = (language + 1) % LANGUAGES;
      PolyglotPier y = new PolyglotPier();
      function(y, language, 1, "l0 z6 l0 n1 - c1 n9 r");
      function(y, next, 1, "l0 z6 l0 n1 - c0 n9 r");
      due("12 calls of two languages", told(y, 0, 11, 0), "r " + number(language, 9));
      due("crossings", y.crossings(), 22L);
      due("13 calls of two languages", told(y, 0, 12, 0), fault(language, 7));
      due("crossings, with those of the throw", y.crossings(), 44L);
      due("it began in", y.thrownIn(), next);
    }
  }

  // "or 60 things and no more can be made".
  private static void sixtyThings() {
    for (int language = ASH; language <= CEDAR; language++) {
      PolyglotPier x = new PolyglotPier();
      for (int i = 0; i < 58; i++) {
        x.make(BIRCH, 0);
      }
      int two = function(x, language, 0, "o o r");
      int three = function(x, language, 0, "o o o r");
      due("58 and 3", told(x, three), fault(language, 7));
      due("its trace", trace(x), "102");
      due("made", x.made(), 60);
      x.collectRings();
      due("all are freed, and two", told(x, two), "r t 61");
      PolyglotPier y = new PolyglotPier();
      for (int i = 0; i < 59; i++) {
        y.make(CEDAR, 0);
      }
      due("59 and one", told(y, function(y, language, 0, "o p7")), "r " + nothing(language));
      due("60 and one", told(y, function(y, language, 0, "o p7")), fault(language, 7));
      due("made", y.made(), 60);
      due("it is not set", y.numberOf(language, 7), 59.0);
      due("freed", y.freed(), 0);
    }
    PolyglotPier z = new PolyglotPier();
    for (int i = 0; i < 59; i++) {
      z.make(BIRCH, 0);
    }
    due("nothing is freed while a function runs", told(z, function(z, ASH, 0, "o p0 n1 p0 o p0")), "x d 7.0");
    due("it is freed behind the run", z.freed(), 1);
    due("and there are 59", z.things(BIRCH), 59);
  }

  // "8 if an op is not one of the language, or there is no such local, global, field, function or place".
  private static void notThere() {
    for (int language = ASH; language <= CEDAR; language++) {
      due("l-1", come(language, "l-1"), fault(language, 8));
      due("l4", come(language, "l4"), fault(language, 8));
      due("s4", come(language, "n1 s4"), fault(language, 8));
      due("g8", come(language, "g8"), fault(language, 8));
      due("p-1", come(language, "n1 p-1"), fault(language, 8));
      due("f3", come(language, "o f3"), fault(language, 8));
      due("q-1", come(language, "o n1 q-1"), fault(language, 8));
      due("c1", come(language, "n1 n1 c1"), fault(language, 8));
      due("c-1", come(language, "n1 n1 c-1"), fault(language, 8));
      due("j2", come(language, "j2"), fault(language, 8));
      due("z-1", come(language, "n1 z-1"), fault(language, 8));
      for (String op : new String[] {"+", "-", "*", "/", "<", "="}) {
        for (int any : new int[] {-9999, -1, 21, 9999}) {
          due("the number of " + op + " has no meaning", come(language, "n1 n1 " + op + any), "r " + nothing(language));
        }
      }
      for (int any : new int[] {-9999, -1, 60, 9999}) {
        due("the number of o has no meaning", come(language, "o" + any + " r"), "r t 0");
        due("the number of r has no meaning", come(language, "n1 r" + any), "r " + number(language, 1));
        due("the number of t has no meaning", come(language, "n1 t" + any), fault(language, 1));
      }
    }
    due("the number of e has no meaning", come(CEDAR, "k4 n1 e9999 t r"), "r j 1");
    due("the number of e has no meaning", come(CEDAR, "k4 n1 e-9999 t r"), "r j 1");
  }

  // "8 is looked for first": also where 3 is, or 7, or another one.
  private static void eightFirst() {
    for (int language = ASH; language <= CEDAR; language++) {
      for (String code : new String[] {"s4", "s-1", "p8", "p-1", "z2", "z-1", "f3", "f-1", "q3", "q-1", "c9", "c-1"}) {
        due(code + " of none", come(language, code), fault(language, 8));
        due(code + " of one", come(language, "n1 " + code.replace("z2", "z3")), fault(language, 8));
      }
      if (language != CEDAR) {
        due("e of none", come(language, "e"), fault(language, 8));
        due("e of one", come(language, "n1 e"), fault(language, 8));
      }
      PolyglotPier x = new PolyglotPier();
      function(x, language, 1, "l0 z6 l0 n1 - c0 c9");
      due("8 at 12 calls", told(x, 0, 11, 0), fault(language, 8));
      due("the trace", x.trace(), 12);
      due("the trace", x.traceAt(0), 6);
      due("8 ahead of a wrong kind", come(language, "n1 f3"), fault(language, 8));
      due("8 ahead of a wrong kind", come(language, "n1 n1 q3"), fault(language, 8));
    }
    due("8 of h", come(CEDAR, "h1"), "x j 8");
    PolyglotPier x = new PolyglotPier();
    x.make(CEDAR, 0);
    x.pass(CEDAR, 0, ASH, 0);
    due("8 ahead of 4", told(x, function(x, ASH, 0, "g0 h1 q3")), "x d 8.0");
    due("no crossing", x.crossings(), 0L);
  }

  // "then 3, then 7".
  private static void threeAheadOfSeven() {
    for (int language = ASH; language <= CEDAR; language++) {
      PolyglotPier x = new PolyglotPier();
      function(x, language, 1, "l0 z6 l0 n1 - c0 c1");
      x.addFunction(language, 1);
      due("3 at 12 calls", told(x, 0, 11, 0), fault(language, 3));
      due("the trace", x.traceAt(0), 6);
      PolyglotPier y = new PolyglotPier();
      function(y, language, 1, "l0 z6 l0 n1 - c0 n1 c1");
      y.addFunction(language, 1);
      due("7 at 12 calls", told(y, 0, 11, 0), fault(language, 7));
      due("the trace", y.traceAt(0), 7);
      PolyglotPier z = new PolyglotPier();
      function(z, language, 1, "l0 z6 l0 n1 - c0 n1 c1");
      z.addFunction((language + 1) % LANGUAGES, 2);
      due("3 at 12 calls, one too few, of another language", told(z, 0, 11, 0), fault(language, 3));
      due("no crossing", z.crossings(), 0L);
    }
  }

  // "then 7, then the others": 7 is ahead of 4 and of 5.
  private static void sevenAheadOfOthers() {
    PolyglotPier x = new PolyglotPier();
    function(x, ASH, 1, "l0 z6 l0 n1 - c0 h1 c1");
    x.addFunction(CEDAR, 1);
    due("7 ahead of 4", told(x, 0, 11, 0), "x d 7.0");
    due("no crossing", x.crossings(), 0L);
    due("4 at 11 calls", told(x, function(x, ASH, 0, "n10 c0")), "x d 7.0");
    due("4 at the first call", told(x, 0, 0, 0), "x d 4.0");
    due("a crossing", x.crossings(), 1L);
    PolyglotPier y = new PolyglotPier();
    function(y, CEDAR, 1, "l0 z6 l0 n1 - c0 k0 c1");
    y.addFunction(ASH, 1);
    due("7 ahead of 5", told(y, 0, 11, 0), "x j 7");
    due("5 at 11 calls", told(y, 0, 10, 0), "x j 5");
    due("a crossing", y.crossings(), 1L);
  }

  // "8 .. first, then 3 .. then the others": 3 is ahead of 1, 2, 4, 5 and 6.
  private static void threeAheadOfOthers() {
    due("3 ahead of 2", come(BIRCH, "l3 n0 /"), "x i 3");
    due("3 ahead of 2", come(CEDAR, "o n0 /"), "x j 3");
    due("3 ahead of 2", come(CEDAR, "k0 n0 /"), "x j 3");
    due("3 ahead of 1", come(BIRCH, "l0 l3 +", MOST, 0), "x i 3");
    due("3 ahead of 6", come(CEDAR, "n1 n1 e"), "x j 3");
    PolyglotPier x = new PolyglotPier();
    x.addFunction(CEDAR, 2);
    due("3 ahead of 4", told(x, function(x, ASH, 0, "h1 c0")), "x d 3.0");
    x.run(function(x, CEDAR, 0, "k0 p0"), 0, 0);
    due("3 ahead of 6, of one value", told(x, function(x, CEDAR, 0, "g0 e")), "x j 3");
    x.addFunction(ASH, 2);
    due("3 ahead of 5", told(x, function(x, CEDAR, 0, "k0 c4")), "x j 3");
    due("no crossing", x.crossings(), 0L);
  }

  // "A code of which a fault comes has popped what it pops, and done nothing else."
  private static void nothingElseIsDone() {
    PolyglotPier x = new PolyglotPier();
    x.make(CEDAR, 0);
    x.pass(CEDAR, 0, ASH, 0);
    x.set(CEDAR, 1, 5);
    x.put(CEDAR, 0, 1, 1);
    due("q that cannot cross", told(x, function(x, ASH, 0, "g0 h1 q1")), "x d 4.0");
    due("the field", x.get(ASH, 0, 1, 1), 0);
    due("the field", x.numberOf(ASH, 1), 5.0);
    int writes = function(x, CEDAR, 2, "n1 p5 l0 r");
    due("c of which the second argument cannot cross", told(x, function(x, ASH, 0, "n1 h1 c" + writes)), "x d 4.0");
    due("it is not called", x.kindOf(CEDAR, 5), 'e');
    due("crossings", x.crossings(), 3L);
    due("s of no local", told(x, function(x, ASH, 0, "n1 s4")), "x d 8.0");
    int local = function(x, BIRCH, 0, "n7 s2 l3 n1 + s2 l2 r");
    x.guard(local, 4, 4, 6, true);
    due("locals stay", told(x, local), "r i 7");
    due("p of none", told(x, function(x, CEDAR, 0, "p1")), "x j 3");
    due("the global stays", x.numberOf(CEDAR, 1), 5.0);
    int escape = function(x, CEDAR, 0, "g7 n1 e n9 r");
    x.guard(escape, 2, 2, 4, true);
    due("e of no escape stays in its call", told(x, escape), "r j 3");
    int z = function(x, CEDAR, 0, "z0 t r");
    x.guard(z, 0, 0, 2, true);
    due("z of none does not go", told(x, z), "r j 3");
  }

  // ---- the guarded part

  // "from a place to another one": each part that there can be, and a fault at each place of it.
  private static void guardedPlaces() {
    for (int thrower : new int[] {0, 1, 10, 18, 19}) {
      for (int from = 0; from < 20; from++) {
        for (int to = from; to < 20; to++) {
          PolyglotPier x = new PolyglotPier();
          int f = function(x, BIRCH, 0, (thrower == 0 ? "" : "j" + thrower + " " + times(thrower - 1, "r")) + "+");
          // What takes the throw is behind the last code.
          x.guard(f, from, to, 19, true);
          boolean isTaken = from <= thrower && thrower <= to && thrower < 19;
          boolean isAgain = from <= thrower && thrower <= to && thrower == 19;
          due("a fault at " + thrower + ", guarded " + from + " to " + to, told(x, f),
              isTaken ? "r n" : isAgain ? "l" : "x i 3");
        }
      }
    }
  }

  // "a place that takes throws": each one that there can be, also the one behind the last code.
  private static void takingPlaces() {
    for (int at = 1; at < 20; at++) {
      PolyglotPier x = new PolyglotPier();
      int f = function(x, CEDAR, 0, times(20, "t"));
      x.guard(f, 0, 0, at, true);
      due("it is taken", told(x, f), "x j 3");
      due("it goes on at " + at, trace(x), "" + at);
    }
    for (int size = 1; size < 20; size++) {
      for (int language = ASH; language <= CEDAR; language++) {
        PolyglotPier x = new PolyglotPier();
        int f = function(x, language, 0, "t " + times(size - 1, "t"));
        x.guard(f, 0, 0, size, true);
        due("behind the last code, " + size, told(x, f), "r " + nothing(language));
        x.guard(f, 0, 0, 19, true);
        due("farther behind the last code, " + size, told(x, f), "r " + nothing(language));
      }
    }
    PolyglotPier y = new PolyglotPier();
    int first = function(y, CEDAR, 0, "r");
    y.guard(first, 0, 0, 0, true);
    due("the place itself takes it", told(y, first), "r j 3");
  }

  // "at: the place that takes throws, or -1 for no guarded part".
  private static void noGuardedPart() {
    for (int language = ASH; language <= CEDAR; language++) {
      PolyglotPier x = new PolyglotPier();
      int f = function(x, language, 0, "r r");
      due("none at first", told(x, f), fault(language, 3));
      x.guard(f, 0, 19, -1, true);
      due("none", told(x, f), fault(language, 3));
      x.guard(f, 0, 19, 1, true);
      due("one", told(x, f), "r " + number(language, 3));
      x.guard(f, 0, 19, -1, true);
      due("none in place of it", told(x, f), fault(language, 3));
      x.guard(f, 0, 0, 1, false);
      due("one again", told(x, f), "r " + number(language, 3));
      x.guard(f, 1, 1, 1, true);
      due("another one in place of it", told(x, f), fault(language, 3));
    }
  }

  // "either all of them, or only those that began in a call of its own language".
  private static void ownOrAll() {
    for (int taker = ASH; taker <= CEDAR; taker++) {
      for (int thrower = ASH; thrower <= CEDAR; thrower++) {
        for (int between = ASH; between <= CEDAR; between++) {
          PolyglotPier x = new PolyglotPier();
          int throwing = function(x, thrower, 0, "n7 t");
          int passing = function(x, between, 0, "c" + throwing);
          int taking = function(x, taker, 0, "c" + passing + " n9 r");
          x.guard(taking, 0, 0, 2, true);
          due("all are taken", told(x, taking), "r " + number(taker, 7));
          x.guard(taking, 0, 0, 2, false);
          String what = "of " + thrower + " over " + between + " to " + taker;
          due(what, told(x, taking), (thrower == taker ? "r " : "x ") + number(taker, 7));
          x.guard(taking, 0, 0, -1, false);
          x.guard(passing, 0, 0, 1, false);
          // What was thrown is taken, and the call between goes on behind its last code.
          due(what + ", taken between", told(x, taking),
              thrower == between ? "r " + number(taker, 9) : "x " + number(taker, 7));
        }
      }
    }
  }

  // "What is thrown in a code of the guarded part, also by a call there that it leaves, is taken".
  private static void thrownByCalls() {
    for (int language = ASH; language <= CEDAR; language++) {
      PolyglotPier x = new PolyglotPier();
      int throwing = function(x, language, 0, "n7 t");
      int taking = function(x, language, 0, "n1 c" + throwing + " n2 r");
      for (int from = 0; from < 4; from++) {
        for (int to = from; to < 4; to++) {
          x.guard(taking, from, to, 3, true);
          boolean isTaken = from <= 1 && to >= 1;
          due("guarded " + from + " to " + to, told(x, taking), (isTaken ? "r " : "x ") + number(language, 7));
        }
      }
      x.guard(taking, 1, 1, 3, true);
      due("the innermost one takes it first", told(x, guarded(x, language, taking)), "r " + number(language, 7));
      x.guard(throwing, 0, 0, 1, true);
      due("the part of the call itself, without the code", told(x, taking), "r " + number(language, 7));
      x.guard(throwing, 0, 1, 1, true);
      due("its own taker throws it again", told(x, taking), "l");
    }
  }

  private static int guarded(PolyglotPier x, int language, int called) {
    int outer = function(x, language, 0, "c" + called + " r r n9 r");
    x.guard(outer, 0, 0, 3, true);
    return outer;
  }

  // "the stack becomes empty, what is thrown, crossed, is pushed, and the call goes on there".
  private static void stackOfATaker() {
    for (int language = ASH; language <= CEDAR; language++) {
      PolyglotPier x = new PolyglotPier();
      int throwing = function(x, BIRCH, 0, "n5 n7 t");
      int one = function(x, language, 0, "n1 n2 c" + throwing + " t r");
      x.guard(one, 2, 2, 4, true);
      due("what is thrown is pushed", told(x, one), "r " + number(language, 7));
      int two = function(x, language, 0, "n1 n2 c" + throwing + " t s0 r");
      x.guard(two, 2, 2, 4, true);
      due("nothing else is there", told(x, two), fault(language, 3));
      int locals = function(x, language, 0, "n6 s1 c" + throwing + " t s0 l1 r");
      x.guard(locals, 2, 2, 4, true);
      due("locals stay", told(x, locals), "r " + number(language, 6));
      int half = function(x, ASH, 0, "h1 t");
      int takes = function(x, language, 0, "c" + half + " t r");
      x.guard(takes, 0, 0, 2, true);
      due("what is thrown has crossed", told(x, takes), language == CEDAR ? "r j 4" : "r d 0.5");
      int whole = function(x, language, 0, "c" + throwing + " t n0 + r");
      x.guard(whole, 0, 0, 2, true);
      due("a number of its language", told(x, whole), "r " + number(language, 7));
    }
  }

  // ---- throws that cross

  // "if it cannot cross, the fault 4 or 5 is thrown in its place from there on, as a throw that began in the call to
  // which it came".
  private static void throwsInPlace() {
    PolyglotPier x = new PolyglotPier();
    int half = function(x, ASH, 0, "h1 t");
    int cedar = function(x, CEDAR, 0, "c" + half + " n9 r");
    due("4 in place", told(x, cedar), "x j 4");
    due("it began in", x.thrownIn(), CEDAR);
    due("joined traces", trace(x), "1 100 100");
    int birch = function(x, BIRCH, 0, "c" + cedar + " n9 r");
    due("from there on", told(x, birch), "x i 4");
    due("it began in", x.thrownIn(), CEDAR);
    due("joined traces", trace(x), "1 100 200 100 200");
    x.guard(birch, 0, 0, 2, false);
    due("it did not begin here", told(x, birch), "x i 4");
    x.guard(birch, 0, 0, 2, true);
    due("all are taken", told(x, birch), "r i 4");
    x.guard(cedar, 0, 0, 2, false);
    due("it began in the call to which it came", told(x, cedar), "r j 4");
    x.guard(cedar, 1, 2, 2, true);
    due("the place is that of the call", told(x, cedar), "x j 4");
    int ash = function(x, ASH, 0, "c" + cedar + " n9 r");
    x.guard(ash, 0, 0, 2, false);
    due("it does not begin where the first one did", told(x, ash), "x d 4.0");
    due("joined traces", trace(x), "1 100 300 100 300");
    PolyglotPier y = new PolyglotPier();
    int escape = function(y, CEDAR, 0, "k0 t");
    int over = function(y, ASH, 0, "c" + escape + " n9 r");
    due("5 in place", told(y, over), "x d 5.0");
    due("it began in", y.thrownIn(), ASH);
    due("joined traces", trace(y), "1 100 100");
    y.guard(over, 0, 0, 2, false);
    due("it is taken where it began in place", told(y, over), "r d 5.0");
    int home = function(y, CEDAR, 0, "c" + escape + " n9 r");
    due("at home it stays", told(y, home), "x k");
    due("one trace", trace(y), "1 200");
    due("crossings", y.crossings(), 2L);
  }

  // "so does what it returns, and if this cannot, this code has the fault": it throws in the call that called.
  private static void resultsThatCannotCross() {
    PolyglotPier x = new PolyglotPier();
    int half = function(x, ASH, 0, "h1 r");
    x.guard(half, 0, 19, 0, true);
    int cedar = function(x, CEDAR, 0, "n1 c" + half + " n9 r");
    due("4", told(x, cedar), "x j 4");
    due("it began in", x.thrownIn(), CEDAR);
    due("its trace", trace(x), "101");
    x.guard(cedar, 1, 1, 3, false);
    due("the code has the fault", told(x, cedar), "r j 4");
    x.guard(cedar, 2, 3, 3, true);
    due("not the next one", told(x, cedar), "x j 4");
    int escape = function(x, CEDAR, 0, "k0 r");
    due("5", told(x, function(x, BIRCH, 0, "j1 c" + escape)), "x i 5");
    due("its trace", trace(x), "301");
  }

  // ".. the arguments cross, the first one first, .. and if this cannot, this code has the fault".
  private static void argumentsThatCannotCross() {
    PolyglotPier x = new PolyglotPier();
    int two = function(x, ASH, 2, "l0 r");
    x.guard(two, 0, 19, 0, true);
    int escape = function(x, CEDAR, 0, "n1 k0 c" + two + " n9 r");
    due("5", told(x, escape), "x j 5");
    due("its trace is that of the code", trace(x), "102");
    due("it began in", x.thrownIn(), CEDAR);
    x.guard(escape, 2, 2, 4, false);
    due("the code has the fault", told(x, escape), "r j 5");
    due("4, and then 5", told(x, function(x, CEDAR, 0, ODD + " k0 c" + two)), "x j 4");
    due("5, and then 4", told(x, function(x, CEDAR, 0, "k0 " + ODD + " c" + two)), "x j 5");
  }

  // ---- traces

  // "The trace of a throw are the calls there were as it began, the innermost one first".
  private static void tracesOfAllDepths() {
    for (int deep = 1; deep <= 12; deep++) {
      for (int language = ASH; language <= CEDAR; language++) {
        PolyglotPier x = new PolyglotPier();
        function(x, language, 1, "l0 z6 l0 n1 - c0 n5 t");
        due("it throws", told(x, 0, deep - 1, 0), fault(language, 5));
        due("the trace", trace(x), ("7 " + times(deep - 1, "5")).trim());
        due("the number of calls", x.trace(), deep);
      }
    }
  }

  // "Returns 100 times the function, plus the place": of the first and the last function, and place.
  private static void traceEntries() {
    PolyglotPier x = new PolyglotPier();
    function(x, ASH, 0, "r");
    for (int i = 1; i < 8; i++) {
      function(x, i % 3, 0, idle(0, 10 + i) + "c" + (i - 1));
    }
    function(x, BIRCH, 0, idle(0, 19) + "c7");
    due("it throws", told(x, 8), "x i 3");
    due("the trace", trace(x), "0 111 212 313 414 515 616 717 819");
    due("the first place of the first function", x.traceAt(0), 0);
    due("the last place of the last function", x.traceAt(8), 819);
  }

  // "that of a throw in place of another one is joined behind the earlier one's": the longest one has 12 and 11.
  private static void longestTrace() {
    for (int deep = 1; deep <= 11; deep++) {
      PolyglotPier x = new PolyglotPier();
      function(x, ASH, 1, "h1 t");
      function(x, CEDAR, 1, "l0 z7 l0 n1 - c1 r n0 c0");
      due("a throw in place of another one", told(x, 1, deep - 1, 0), "x j 4");
      String cedar = "108 " + times(deep - 1, "105");
      due("joined traces", trace(x), ("1 " + cedar + cedar).trim());
      due("the number of calls", x.trace(), 2 * deep + 1);
      due("the last one", x.traceAt(2 * deep), deep == 1 ? 108 : 105);
      dueThrow("behind the last one", NO_INDEX, () -> x.traceAt(2 * x.trace()));
      dueThrow("behind the last one", NO_INDEX, () -> x.traceAt(x.trace()));
    }
  }

  // "the throw that left the last run": not one that was taken, nor one before it.
  private static void traceOfTheLastThrow() {
    PolyglotPier x = new PolyglotPier();
    int half = function(x, ASH, 0, "h1 t");
    int cedar = function(x, CEDAR, 0, "c" + half + " n9 n8 t");
    x.guard(cedar, 0, 0, 3, true);
    due("it is thrown again", told(x, cedar), "x j 4");
    due("as a new throw", trace(x), "103");
    due("it began in", x.thrownIn(), CEDAR);
    int birch = function(x, BIRCH, 0, "c" + cedar + " n9 n8 t");
    x.guard(birch, 0, 0, 3, true);
    due("and again", told(x, birch), "x i 4");
    due("as a new throw", trace(x), "203");
    due("it began in", x.thrownIn(), BIRCH);
    x.run(half, 0, 0);
    due("of the last run", trace(x), "1");
    due("it began in", x.thrownIn(), ASH);
    x.guard(half, 0, 0, 0, true);
    x.addFunction(CEDAR, 0);
    x.collect();
    x.set(CEDAR, 0, 1);
    due("other calls leave it", trace(x), "1");
    due("other calls leave it", x.resultNumber(), 0.5);
    x.run(3, 0, 0);
    dueThrow("the last run returned", NO_ELEMENT, () -> x.trace());
  }

  public static void main(String[] args) {
    numbersOfFaults();
    tooFew();
    kindsOfValues();
    twelveCalls();
    sixtyThings();
    notThere();
    eightFirst();
    threeAheadOfSeven();
    sevenAheadOfOthers();
    threeAheadOfOthers();
    nothingElseIsDone();
    guardedPlaces();
    takingPlaces();
    noGuardedPart();
    ownOrAll();
    thrownByCalls();
    stackOfATaker();
    throwsInPlace();
    resultsThatCannotCross();
    argumentsThatCannotCross();
    tracesOfAllDepths();
    traceEntries();
    longestTrace();
    traceOfTheLastThrow();
    end();
  }
}
