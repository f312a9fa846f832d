/** For each promise of the document: ordinary inputs, the edges that it names, and wrong inputs. */
public final class PromiseTest extends Checks {
  // ---- functions and runs

  private static void promise1ANewObject() {
    PolyglotPier x = new PolyglotPier();
    due("new made", x.made(), 0);
    due("new freed", x.freed(), 0);
    due("new crossings", x.crossings(), 0L);
    due("new isSound", x.isSound(), true);
    dueThrow("new run", NO_INDEX, () -> x.run(0, 0, 0));
    for (int language = 0; language < 3; language++) {
      due("new things", x.things(language), 0);
      for (int global = 0; global < 8; global++) {
        due("new global", x.kindOf(language, global), "une".charAt(language));
      }
    }
  }

  private static void promise2AddFunction() {
    PolyglotPier x = new PolyglotPier();
    dueThrow("language -1", NO_ARGUMENT, () -> x.addFunction(-1, 0));
    dueThrow("language 3", NO_ARGUMENT, () -> x.addFunction(3, 0));
    dueThrow("parameters -1", NO_ARGUMENT, () -> x.addFunction(0, -1));
    dueThrow("parameters 3", NO_ARGUMENT, () -> x.addFunction(0, 3));
    for (int number = 0; number < 9; number++) {
      due("addFunction", x.addFunction(number % 3, number / 3), number);
    }
    dueThrow("a tenth", NO_STATE, () -> x.addFunction(0, 0));
    dueThrow("a tenth of no language", NO_ARGUMENT, () -> x.addFunction(3, 0));
    due("an empty function", told(x, 8, 1, 2), "r e");
    due("an empty function of Ash", told(x, 0, 1, 2), "r u");
    due("an empty function of Birch", told(x, 1, 1, 2), "r n");
  }

  private static void promise3Code() {
    PolyglotPier x = new PolyglotPier();
    dueThrow("code of no function", NO_INDEX, () -> x.code(0, 'y', 10000));
    x.addFunction(BIRCH, 0);
    dueThrow("code of function -1", NO_INDEX, () -> x.code(-1, 'n', 0));
    dueThrow("code of function 1", NO_INDEX, () -> x.code(1, 'n', 0));
    dueThrow("no op", NO_ARGUMENT, () -> x.code(0, 'y', 0));
    dueThrow("no op", NO_ARGUMENT, () -> x.code(0, (char) 300, 0));
    dueThrow("number 10000", NO_ARGUMENT, () -> x.code(0, 'n', 10000));
    dueThrow("number -10000", NO_ARGUMENT, () -> x.code(0, 'n', -10000));
    String ops = "nhlsgp+-*/<=zjofqcrtke";
    for (int place = 0; place < 20; place++) {
      due("code", x.code(0, ops.charAt(21 - place), place % 2 == 0 ? 9999 : -9999), place);
    }
    dueThrow("a 21st code", NO_STATE, () -> x.code(0, 'n', 0));
    dueThrow("a 21st code, no op", NO_ARGUMENT, () -> x.code(0, 'y', 0));
    x.addFunction(CEDAR, 0);
    due("code of another function", x.code(1, 'n', 0), 0);
    due("code of another function", x.code(1, 'h', 0), 1);
  }

  private static void promise4Guard() {
    PolyglotPier x = new PolyglotPier();
    dueThrow("guard of no function", NO_INDEX, () -> x.guard(0, 5, 4, 30, true));
    int f = function(x, ASH, 0, "n1 t n2 r");
    dueThrow("from -1", NO_ARGUMENT, () -> x.guard(f, -1, 4, 0, true));
    dueThrow("to 20", NO_ARGUMENT, () -> x.guard(f, 0, 20, 0, true));
    dueThrow("from 20", NO_ARGUMENT, () -> x.guard(f, 20, 20, 0, true));
    dueThrow("at 20", NO_ARGUMENT, () -> x.guard(f, 0, 0, 20, true));
    dueThrow("at -2", NO_ARGUMENT, () -> x.guard(f, 0, 0, -2, true));
    dueThrow("to below from", NO_ARGUMENT, () -> x.guard(f, 3, 2, 0, true));
    dueThrow("to below from, none at", NO_ARGUMENT, () -> x.guard(f, 3, 2, -1, true));
    due("first guard", x.guard(f, 1, 1, 3, false), false);
    due("taken", told(x, f, 0, 0), "r d 1.0");
    due("second guard", x.guard(f, 2, 19, 3, true), true);
    due("not in the part", told(x, f, 0, 0), "x d 1.0");
    due("third guard", x.guard(f, 0, 0, 19, true), true);
    due("not in the part", told(x, f, 0, 0), "x d 1.0");
    due("no guard", x.guard(f, 0, 19, -1, true), true);
    due("no guard", told(x, f, 0, 0), "x d 1.0");
    due("guard behind none", x.guard(f, 0, 19, 19, true), false);
    due("goes on behind the last code", told(x, f, 0, 0), "r u");
  }

  private static void promise5RunPushes() {
    due("n in Ash", come(ASH, "n-3 r"), "r d -3.0");
    due("n in Birch", come(BIRCH, "n-3 r"), "r i -3");
    due("n in Cedar", come(CEDAR, "n-3 r"), "r j -3");
    due("h in Ash", come(ASH, "h-3 r"), "r d -1.5");
    due("h in Birch", come(BIRCH, "h4 r"), "r d 2.0");
    due("h in Cedar", come(CEDAR, "h4 r"), "x j 8");
    due("locals", come(CEDAR, "l0 l1 - s3 l3 r", 7, 9), "r j -2");
    due("other locals in Ash", come(ASH, "l2 r", 7, 9), "r u");
    due("other locals in Birch", come(BIRCH, "l3 r", 7, 9), "r n");
    due("other locals in Cedar", come(CEDAR, "l2 r", 7, 9), "r e");
    due("no local", come(ASH, "l4 r"), "x d 8.0");
    due("no local", come(BIRCH, "s-1"), "x i 8");
    due("globals", come(BIRCH, "l0 p7 g7 r", LEAST, 0), "r i -2147483648");
    due("no global", come(BIRCH, "g8 r"), "x i 8");
    due("no global", come(CEDAR, "p-1"), "x j 8");
    due("8 is ahead of 3", come(CEDAR, "p8"), "x j 8");
    due("s of none", come(ASH, "s0"), "x d 3.0");
    due("p of none", come(ASH, "p0"), "x d 3.0");
    due("r of none", come(BIRCH, "r"), "x i 3");
    due("t of none", come(BIRCH, "t"), "x i 3");
    PolyglotPier x = new PolyglotPier();
    due("arguments of no meaning", told(x, function(x, BIRCH, 0, "l0 r"), 7, 8), "r n");
  }

  private static void promise5RunReckons() {
    due("+ Ash", come(ASH, "l0 h1 + r", 2, 0), "r d 2.5");
    due("- Ash", come(ASH, "l0 l1 - r", 2, 5), "r d -3.0");
    due("/ Ash", come(ASH, "l0 l1 / r", 1, 4), "r d 0.25");
    due("/ Ash by 0", come(ASH, "l0 l1 / r", 1, 0), "r d Infinity");
    due("/ Ash of 0 by 0", come(ASH, "l0 l1 / r", 0, 0), "r d NaN");
    due("0 * -1 in Ash", come(ASH, "l0 l1 * r", 0, -1), "r d -0.0");
    due("* Ash of infinite", come(ASH, "n1 n0 / n0 * r"), "r d NaN");
    due("- Ash of infinite", come(ASH, "n1 n0 / s2 l2 l2 - r"), "r d NaN");
    due("+ Ash of infinite", come(ASH, "n1 n0 / s2 l2 l2 + r"), "r d Infinity");
    due("+ of what is no number", come(ASH, "n0 n0 / n1 + r"), "r d NaN");
    due("+ with what is no number", come(ASH, "n1 n0 n0 / + r"), "r d NaN");
    due("+ of infinite ones", come(ASH, "n1 n0 / n-1 n0 / + r"), "r d NaN");
    due("/ of infinite ones", come(ASH, "n1 n0 / n1 n0 / / r"), "r d NaN");
    due("/ by an infinite one", come(ASH, "n-1 n1 n0 / / r"), "r d -0.0");
    due("0 by 0 in doubles of Birch", come(BIRCH, "h0 n0 / r"), "r d NaN");
    due("+ Birch", come(BIRCH, "l0 l1 + r", MOST, LEAST), "r i -1");
    due("+ Birch overflows", come(BIRCH, "l0 l1 + r", MOST, 1), "x i 1");
    due("- Birch overflows", come(BIRCH, "l0 l1 - r", LEAST, 1), "x i 1");
    due("* Birch overflows", come(BIRCH, "l0 l1 * r", 65536, 32768), "x i 1");
    due("* Birch", come(BIRCH, "l0 l1 * r", 65536, -32768), "r i -2147483648");
    due("/ Birch cuts", come(BIRCH, "l0 l1 / r", -7, 2), "r i -3");
    due("/ Birch by 0", come(BIRCH, "l0 l1 / r", 1, 0), "x i 2");
    due("/ Birch overflows", come(BIRCH, "l0 l1 / r", LEAST, -1), "x i 1");
    due("Birch mixes", come(BIRCH, "l0 h3 * r", 2, 0), "r d 3.0");
    due("Birch mixes", come(BIRCH, "h3 l0 / r", 0, 0), "r d Infinity");
    due("Birch of doubles", come(BIRCH, "h1 h1 + r"), "r d 1.0");
    due("* Cedar", come(CEDAR, "l0 l1 * r", LEAST, LEAST), "r j 4611686018427387904");
    due("* Cedar wraps", come(CEDAR, "l0 l0 * s2 l2 l2 + r", LEAST, 0), "r j -9223372036854775808");
    due("/ Cedar wraps", come(CEDAR, "l0 l0 * s2 l2 l2 + l1 / r", LEAST, -1), "r j -9223372036854775808");
    due("/ Cedar cuts", come(CEDAR, "l0 l1 / r", 7, -2), "r j -3");
    due("/ Cedar by 0", come(CEDAR, "l0 l1 / r", 7, 0), "x j 2");
    due("+ of nothing", come(BIRCH, "l0 l2 + r"), "x i 3");
    due("/ of nothing by 0", come(CEDAR, "l2 n0 / r"), "x j 3");
    due("+ of too few", come(ASH, "n1 + r"), "x d 3.0");
  }

  private static void promise5RunCompares() {
    due("<", come(ASH, "l0 l1 < r", -1, 0), "r d 1.0");
    due("<", come(BIRCH, "l0 l1 < r", 0, 0), "r i 0");
    due("<", come(CEDAR, "l0 l1 < r", MOST, LEAST), "r j 0");
    due("< mixes", come(BIRCH, "l0 h1 < r", 0, 0), "r i 1");
    due("< of no number", come(ASH, "n0 n0 / n1 < r"), "r d 0.0");
    due("< of nothing", come(ASH, "l0 l2 < r"), "x d 3.0");
    due("=", come(ASH, "l0 l1 = r", 3, 3), "r d 1.0");
    due("= mixes", come(BIRCH, "l0 h6 = r", 3, 0), "r i 1");
    due("= of zeros", come(ASH, "n0 n-1 * n0 = r"), "r d 1.0");
    due("= of no number", come(ASH, "n0 n0 / s2 l2 l2 = r"), "r d 0.0");
    due("= of no number and 0", come(ASH, "n0 n0 / n0 = r"), "r d 0.0");
    due("= of 0 and no number", come(ASH, "n0 n0 n0 / = r"), "r d 0.0");
    due("= of longs next to one another", come(CEDAR, "l0 l0 * s2 l2 l2 n1 + = r", MOST, 0), "r j 0");
    due("< of longs next to one another", come(CEDAR, "l0 l0 * s2 l2 l2 n1 + < r", MOST, 0), "r j 1");
    due("< of no number and 1", come(ASH, "n1 n0 n0 / < r"), "r d 0.0");
    due("= of nothing", come(CEDAR, "l2 l3 = r"), "r j 1");
    due("= of nothing and 0", come(CEDAR, "l2 l0 = r"), "r j 0");
    due("= of things", come(BIRCH, "o s2 l2 l2 = r"), "r i 1");
    due("= of two things", come(BIRCH, "o o = r"), "r i 0");
    due("= of escapes", come(CEDAR, "k1 k1 = r"), "r j 1");
    due("= of escapes elsewhere", come(CEDAR, "k1 k2 = r"), "r j 0");
    due("= of too few", come(CEDAR, "n1 ="), "x j 3");
    due("z of 0", come(BIRCH, "l0 z4 n1 r n2 r", 0, 0), "r i 2");
    due("z of 1", come(BIRCH, "l0 z4 n1 r n2 r", 1, 0), "r i 1");
    due("z of half", come(ASH, "h1 z4 n1 r n2 r"), "r d 1.0");
    due("z of -0", come(ASH, "n0 n-1 * z6 n1 r n2 r"), "r d 2.0");
    due("z of no number", come(ASH, "n0 n0 / z6 n1 r n2 r"), "r d 1.0");
    due("z of a nothing", come(CEDAR, "l2 z4 n1 r n2 r"), "r j 2");
    due("z of a thing", come(CEDAR, "o z4 n1 r n2 r"), "r j 1");
    due("z of an escape", come(CEDAR, "k0 z4 n1 r n2 r"), "r j 1");
    due("z to the place behind", come(CEDAR, "n0 z4 n1 r"), "r e");
    due("z to no place", come(CEDAR, "n1 z5 n1 r"), "x j 8");
    due("z of none to no place", come(CEDAR, "z-1"), "x j 8");
    due("z of none", come(CEDAR, "z0"), "x j 3");
    due("j", come(ASH, "j3 n1 r n2 r"), "r d 2.0");
    due("j to the place behind", come(ASH, "j1"), "r u");
    due("j to no place", come(ASH, "j2"), "x d 8.0");
  }

  private static void promise5RunThings() {
    due("o", come(ASH, "o r"), "r t 0");
    due("fields", come(CEDAR, "o s2 l2 n5 q2 l2 f2 r"), "r j 5");
    due("other fields", come(ASH, "o f1 r"), "r u");
    due("no field", come(ASH, "f3"), "x d 8.0");
    due("no field", come(ASH, "q-1"), "x d 8.0");
    due("f of a number", come(ASH, "n1 f0"), "x d 3.0");
    due("q of a number", come(BIRCH, "n1 n1 q0"), "x i 3");
    due("q of too few", come(BIRCH, "o q0"), "x i 3");
    PolyglotPier x = new PolyglotPier();
    int f = function(x, BIRCH, 1, "l0 f0 r");
    int g = function(x, BIRCH, 2, "l0 l1 q0 l0 f0 r");
    due("a field of Ash in Birch", told(x, function(x, ASH, 0, "o s0 l0 n7 q0 l0 c0 r"), 0, 0), "r d 7.0");
    due("its crossings", x.crossings(), 3L);
    due("a field of Cedar written in Birch",
        told(x, function(x, CEDAR, 2, "o l0 c" + g + " r"), 9, 0), "r j 9");
    due("its crossings", x.crossings(), 8L);
    int half = function(x, BIRCH, 1, "l0 h1 q0");
    due("half into Cedar", told(x, function(x, CEDAR, 0, "o c" + half), 0, 0), "x j 4");
    due("its trace", trace(x), "402 501");
    due("its crossings", x.crossings(), 11L);
    due("an escape in a field of Cedar",
        told(x, function(x, CEDAR, 0, "o s0 l0 k0 q0 l0 c" + f), 0, 0), "x j 5");
    due("its trace", trace(x), "1 606");
    due("50 things and another one", comeFull(0), "r t 50");
    due("59 things and another one", comeFull(9), "r t 59");
    due("60 things and another one", comeFull(10), "x j 7");
    due("the limit", come(CEDAR, "j0"), "l");
  }

  /** Makes one thing more than 50 and these. */
  private static String comeFull(int before) {
    PolyglotPier x = new PolyglotPier();
    for (int i = 0; i < before; i++) {
      x.make(i % 2 + 1, 0);
    }
    return told(x, function(x, CEDAR, 1, "o o o o o o o o o o l0 n1 - s0 l0 z17 j0 o r"), 5, 0);
  }

  private static void promise5RunCalls() {
    PolyglotPier x = new PolyglotPier();
    int minus = function(x, BIRCH, 2, "l0 l1 - r");
    due("arguments", told(x, function(x, BIRCH, 0, "n9 n4 c0 r"), 0, 0), "r i 5");
    due("no crossings at home", x.crossings(), 0L);
    due("abroad", told(x, function(x, CEDAR, 0, "n9 n4 c0 r"), 0, 0), "r j 5");
    due("its crossings", x.crossings(), 3L);
    due("too few", told(x, function(x, CEDAR, 0, "n9 c0 r"), 0, 0), "x j 3");
    due("no function", told(x, function(x, CEDAR, 0, "n9 c9 r"), 0, 0), "x j 8");
    due("crossings of too few", x.crossings(), 3L);
    int big = function(x, CEDAR, 1, "l0 n9999 * n9999 * n9999 * r");
    due("a result that cannot cross", told(x, function(x, BIRCH, 1, "l0 c" + big + " r"), 9999, 0), "x i 4");
    due("its trace", trace(x), "601");
    due("it began in", x.thrownIn(), BIRCH);
    due("its crossings", x.crossings(), 5L);
    due("a result that is no double",
        told(x, function(x, ASH, 1, "l0 c" + big + " r"), 9999, 0), "x d 4.0");
    due("a call that goes on with none left", told(x, minus, 5, 3), "r i 2");
    due("functions to 12 calls", comeDeep(11), "r j 0");
    due("functions to 13 calls", comeDeep(12), "x j 7");
    due("7 is ahead of 4", comeDeepWithHalf(), "x d 7.0");
  }

  private static String comeDeep(int below) {
    PolyglotPier x = new PolyglotPier();
    return told(x, function(x, CEDAR, 1, "l0 z6 l0 n1 - c0 n0 r"), below, 0);
  }

  private static String comeDeepWithHalf() {
    PolyglotPier x = new PolyglotPier();
    function(x, ASH, 1, "l0 z7 l0 n1 - c0 r h1 c1");
    x.addFunction(CEDAR, 1);
    String told = told(x, 0, 11, 0);
    due("crossings of a call that is not made", x.crossings(), 0L);
    return told;
  }

  private static void promise5RunLimit() {
    StringBuilder codes = new StringBuilder();
    PolyglotPier x = new PolyglotPier();
    // Each call of function 0 has 19 codes; 21 of them, with the codes of function 1, are 400 + some.
    for (int i = 0; i < 19; i++) {
      codes.append("j").append(i + 1).append(' ');
    }
    function(x, BIRCH, 0, codes.toString());
    int most = function(x, BIRCH, 0, "c0 c0 c0 c0 c0 c0 c0 c0 c0 c0 c0 c0 c0 c0 c0 c0 c0 c0 c0 c0");
    due("400 codes", told(x, most, 0, 0), "r n");
    due("401 codes", told(x, function(x, BIRCH, 0, "c" + most), 0, 0), "l");
    fill(x, 0, "n1");
    due("more codes", told(x, most, 0, 0), "l");
    due("the limit ends it", x.run(most, 0, 0), 'l');
    dueThrow("no result", NO_ELEMENT, () -> x.resultKind());
    int writes = function(x, BIRCH, 0, "n5 p0 j2");
    due("the limit", told(x, writes, 0, 0), "l");
    due("what it has changed stays", x.numberOf(BIRCH, 0), 5.0);
    PolyglotPier y = new PolyglotPier();
    due("a thing of Ash in a run that the limit ends", told(y, function(y, ASH, 0, "o j1"), 0, 0), "l");
    due("is freed", y.freed(), 1);
    dueThrow("no function -1", NO_INDEX, () -> y.run(-1, 0, 0));
    dueThrow("no function 1", NO_INDEX, () -> y.run(1, 0, 0));
    dueThrow("no result of the run before", NO_ELEMENT, () -> y.resultKind());
  }

  private static void promise5RunThrows() {
    PolyglotPier x = new PolyglotPier();
    int ash = function(x, ASH, 0, "h1 t");
    int cedar = function(x, CEDAR, 0, "c0 n3 r");
    int birch = function(x, BIRCH, 0, "c1 n3 r");
    due("a throw that cannot cross", told(x, birch, 0, 0), "x i 4");
    due("joined traces", trace(x), "1 100 200 100 200");
    due("it began in", x.thrownIn(), CEDAR);
    due("once at each border", x.crossings(), 2L);
    x.guard(cedar, 0, 0, 1, false);
    due("taken where it began in place", told(x, birch, 0, 0), "r i 3");
    int escape = function(x, CEDAR, 0, "k0 t");
    due("an escape is thrown", told(x, escape, 0, 0), "x k");
    int over = function(x, BIRCH, 0, "c" + escape);
    due("an escape is thrown over the border", told(x, over, 0, 0), "x i 5");
    due("joined traces", trace(x), "301 400 400");
    int nothing = function(x, ASH, 0, "l0 t");
    int takes = function(x, BIRCH, 0, "c" + nothing + " j0 r");
    x.guard(takes, 0, 0, 2, true);
    due("a nothing is thrown over the border", told(x, takes, 0, 0), "r n");
    x.guard(takes, 0, 0, 2, false);
    due("it began abroad", told(x, takes, 0, 0), "x n");
    due("it began in", x.thrownIn(), ASH);
    int back = function(x, ASH, 0, "c" + takes + " n1 r");
    x.guard(back, 0, 0, 2, false);
    due("it began at home, with a call abroad between", told(x, back, 0, 0), "r n");
    x.guard(ash, 1, 1, 0, true);
    due("a throw that is taken again and again", told(x, ash, 0, 0), "l");
  }

  private static void promise5RunStackOfATakenThrow() {
    PolyglotPier x = new PolyglotPier();
    int f = function(x, BIRCH, 0, "n1 n2 n0 / s0 + r");
    x.guard(f, 0, 3, 5, true);
    due("only what is thrown is left", told(x, f, 0, 0), "x i 3");
    due("its trace", trace(x), "5");
    int g = function(x, BIRCH, 0, "n8 c0 + r");
    x.guard(g, 1, 1, 3, true);
    due("what is thrown by a call", told(x, g, 0, 0), "r i 3");
  }

  private static void promise5RunEscapes() {
    due("e at once", come(CEDAR, "k4 n5 e n9 n2 * r"), "r j 10");
    due("e at once", come(CEDAR, "n1 k4 n5 e r"), "r j 5");
    due("the stack becomes empty", come(CEDAR, "n1 k4 n5 e + r"), "x j 3");
    due("e of a number", come(CEDAR, "n1 n5 e"), "x j 3");
    due("e of too few", come(CEDAR, "k1 e"), "x j 3");
    due("e in Ash", come(ASH, "e"), "x d 8.0");
    due("k in Birch", come(BIRCH, "k0"), "x i 8");
    due("k to the place behind", come(CEDAR, "k2 r"), "r k");
    due("k to no place", come(CEDAR, "k3 r"), "x j 8");
    PolyglotPier x = new PolyglotPier();
    int inner = function(x, CEDAR, 1, "l0 n7 e");
    int outer = function(x, CEDAR, 0, "n3 k4 c0 n1 r");
    due("to a call below", told(x, outer, 0, 0), "r j 7");
    int between = function(x, CEDAR, 1, "l0 c0");
    due("to a call two below", told(x, function(x, CEDAR, 0, "k3 c" + between + " n1 r"), 0, 0), "r j 7");
    due("no crossings", x.crossings(), 0L);
    int keeps = function(x, CEDAR, 0, "k1 p0");
    due("an escape is kept", told(x, keeps, 0, 0), "r e");
    due("its call is left", told(x, function(x, CEDAR, 0, "g0 c0"), 0, 0), "x j 6");
    due("its trace", trace(x), "2 501");
    int foreign = function(x, BIRCH, 0, "c" + function(x, CEDAR, 0, "g0 n4 e") + " r");
    due("a call of Birch above", told(x, function(x, CEDAR, 0, "k3 p0 c" + foreign + " r"), 0, 0), "x j 6");
    due("its trace", trace(x), "602 700 802");
    due("an escape as an argument", inner, 0);
    PolyglotPier y = new PolyglotPier();
    function(y, ASH, 2, "l0 r");
    due("an escape cannot cross", told(y, function(y, CEDAR, 0, "k0 n1 c0"), 0, 0), "x j 5");
    due("arguments up to the first one that could not", y.crossings(), 1L);
    due("the same number again", told(y, function(y, CEDAR, 0, "n1 k0 c0"), 0, 0), "x j 5");
    due("arguments up to the first one that could not", y.crossings(), 3L);
  }

  private static void promises6To8Results() {
    PolyglotPier x = new PolyglotPier();
    dueThrow("no run", NO_ELEMENT, () -> x.resultKind());
    dueThrow("no run", NO_ELEMENT, () -> x.resultNumber());
    dueThrow("no run", NO_ELEMENT, () -> x.resultWhole());
    x.run(function(x, ASH, 0, "h3 r"), 0, 0);
    due("kind", x.resultKind(), 'd');
    due("number", x.resultNumber(), 1.5);
    dueThrow("no whole", NO_ELEMENT, () -> x.resultWhole());
    int wide = function(x, CEDAR, 2, "l0 l0 * l1 + r");
    x.run(wide, MOST, MOST);
    due("kind", x.resultKind(), 'j');
    due("number", x.resultNumber(), 4611686016279904256.0);
    due("whole", x.resultWhole(), 4611686016279904256L);
    x.run(function(x, BIRCH, 1, "l0 t"), LEAST, 0);
    due("kind", x.resultKind(), 'i');
    due("number", x.resultNumber(), -2147483648.0);
    due("whole", x.resultWhole(), -2147483648L);
    x.make(ASH, 0);
    x.run(function(x, ASH, 0, "o r"), 0, 0);
    due("kind", x.resultKind(), 't');
    due("whole", x.resultWhole(), 1L);
    due("freed behind the run", x.isThere(1), false);
    dueThrow("no number", NO_ELEMENT, () -> x.resultNumber());
    x.make(ASH, 1);
    due("still that of the thing", x.resultWhole(), 1L);
    x.run(function(x, ASH, 0, ""), 0, 0);
    due("kind", x.resultKind(), 'u');
    dueThrow("no number", NO_ELEMENT, () -> x.resultNumber());
    dueThrow("no whole", NO_ELEMENT, () -> x.resultWhole());
    x.run(function(x, CEDAR, 0, "k0 r"), 0, 0);
    due("kind", x.resultKind(), 'k');
    dueThrow("no number", NO_ELEMENT, () -> x.resultNumber());
    dueThrow("no whole", NO_ELEMENT, () -> x.resultWhole());
    dueThrow("no such function", NO_INDEX, () -> x.run(9, 0, 0));
    due("the run before", x.resultKind(), 'k');
    x.run(function(x, CEDAR, 0, "j0"), 0, 0);
    dueThrow("the limit", NO_ELEMENT, () -> x.resultKind());
    dueThrow("the limit", NO_ELEMENT, () -> x.resultNumber());
    dueThrow("the limit", NO_ELEMENT, () -> x.resultWhole());
  }

  private static void promises9To11Traces() {
    PolyglotPier x = new PolyglotPier();
    dueThrow("no run", NO_ELEMENT, () -> x.trace());
    dueThrow("no run", NO_ELEMENT, () -> x.traceAt(-1));
    dueThrow("no run", NO_ELEMENT, () -> x.thrownIn());
    int f = function(x, CEDAR, 1, "l0 c0 r");
    x.run(f, 0, 0);
    due("12 calls", x.trace(), 12);
    due("first", x.traceAt(0), 1);
    due("last", x.traceAt(11), 1);
    due("thrown in", x.thrownIn(), CEDAR);
    dueThrow("index 12", NO_INDEX, () -> x.traceAt(12));
    dueThrow("index -1", NO_INDEX, () -> x.traceAt(-1));
    int thrower = function(x, BIRCH, 0, "n1 n2 t");
    int g = function(x, CEDAR, 0, "n1 c" + thrower);
    due("it throws", told(x, g, 0, 0), "x j 2");
    due("its trace", trace(x), "102 201");
    due("thrown in", x.thrownIn(), BIRCH);
    x.guard(thrower, 2, 2, 2, false);
    due("thrown again", told(x, g, 0, 0), "l");
    dueThrow("the limit", NO_ELEMENT, () -> x.trace());
    dueThrow("the limit", NO_ELEMENT, () -> x.traceAt(0));
    dueThrow("the limit", NO_ELEMENT, () -> x.thrownIn());
    x.guard(g, 0, 1, 1, true);
    x.guard(thrower, 0, 0, -1, false);
    int returns = function(x, CEDAR, 0, "n1 r");
    x.run(returns, 0, 0);
    dueThrow("it returned", NO_ELEMENT, () -> x.trace());
    dueThrow("it returned", NO_ELEMENT, () -> x.traceAt(0));
    dueThrow("it returned", NO_ELEMENT, () -> x.thrownIn());
    longestTrace();
  }

  private static void longestTrace() {
    PolyglotPier x = new PolyglotPier();
    function(x, ASH, 1, "h1 t");
    int home = function(x, CEDAR, 1, "l0 z7 l0 n1 - c1 r n0 c0");
    due("a throw in place of another one", told(x, home, 10, 0), "x j 4");
    String cedar = "108 105 105 105 105 105 105 105 105 105 105";
    due("its trace", trace(x), "1 " + cedar + " " + cedar);
    due("the longest", x.trace(), 23);
    due("thrown in", x.thrownIn(), CEDAR);
    due("crossings", x.crossings(), 2L);
  }

  // ---- globals and things

  private static void wrongGlobals(PolyglotPier x, int language, int global) {
    dueThrow("set", NO_INDEX, () -> x.set(language, global, 0));
    dueThrow("make", NO_INDEX, () -> x.make(language, global));
    dueThrow("pass from", NO_INDEX, () -> x.pass(language, global, 0, 0));
    dueThrow("pass into", NO_INDEX, () -> x.pass(0, 0, language, global));
    dueThrow("put", NO_INDEX, () -> x.put(language, global, 0, 0));
    dueThrow("get", NO_INDEX, () -> x.get(language, global, 0, 0));
    dueThrow("kindOf", NO_INDEX, () -> x.kindOf(language, global));
    dueThrow("numberOf", NO_INDEX, () -> x.numberOf(language, global));
    dueThrow("equal", NO_INDEX, () -> x.equal(language, global, 0));
  }

  private static void promises12To19WrongIndices() {
    PolyglotPier x = new PolyglotPier();
    wrongGlobals(x, -1, 0);
    wrongGlobals(x, 3, 0);
    wrongGlobals(x, 0, -1);
    wrongGlobals(x, 2, 8);
    wrongGlobals(x, MOST, LEAST);
    dueThrow("put field", NO_INDEX, () -> x.put(0, 0, 3, 0));
    dueThrow("put field", NO_INDEX, () -> x.put(0, 0, -1, 0));
    dueThrow("put from", NO_INDEX, () -> x.put(0, 0, 0, 8));
    dueThrow("get field", NO_INDEX, () -> x.get(0, 0, 3, 0));
    dueThrow("get into", NO_INDEX, () -> x.get(0, 0, 0, -1));
    dueThrow("equal other", NO_INDEX, () -> x.equal(0, 0, 8));
    dueThrow("put into no thing", NO_OPERATION, () -> x.put(0, 0, 0, 0));
    dueThrow("get of no thing", NO_OPERATION, () -> x.get(0, 0, 0, 0));
    due("nothing changed", x.kindOf(0, 0), 'u');
  }

  private static void promise12Set() {
    PolyglotPier x = new PolyglotPier();
    due("set", x.set(ASH, 7, LEAST), 0);
    due("kind", x.kindOf(ASH, 7), 'd');
    due("number", x.numberOf(ASH, 7), -2147483648.0);
    x.set(BIRCH, 7, 5);
    due("kind", x.kindOf(BIRCH, 7), 'i');
    x.set(CEDAR, 0, -5);
    due("kind", x.kindOf(CEDAR, 0), 'j');
    due("number", x.numberOf(CEDAR, 0), -5.0);
    for (int i = 0; i < 4; i++) {
      x.make(ASH, 1);
      x.put(ASH, 1, 2, 0);
      x.pass(ASH, 1, ASH, 0);
    }
    due("four things in a row", x.things(ASH), 4);
    due("still held", x.set(ASH, 0, 0), 0);
    due("all of them are freed", x.set(ASH, 1, 0), 4);
    x.make(BIRCH, 0);
    due("a thing of Birch is not counted", x.set(BIRCH, 0, 0), 0);
    due("it is there", x.isThere(4), true);
  }

  private static void promise13Make() {
    PolyglotPier x = new PolyglotPier();
    due("make", x.make(ASH, 0), 0);
    due("make again", x.make(ASH, 0), 1);
    due("the first one is freed", x.isThere(0), false);
    due("the second one", x.numberOf(ASH, 0), 1.0);
    for (int i = 2; i < 61; i++) {
      due("make", x.make(i % 2 + 1, 0), i);
    }
    dueThrow("60 things", NO_STATE, () -> x.make(ASH, 0));
    dueThrow("60 things, no global", NO_INDEX, () -> x.make(ASH, 8));
    due("made", x.made(), 61);
    due("it still refers to the second one", x.numberOf(ASH, 0), 1.0);
    due("collect", x.collect(), 57);
    due("make", x.make(CEDAR, 5), 61);
    due("field", x.get(CEDAR, 5, 2, 4), 0);
    due("field", x.kindOf(CEDAR, 4), 'e');
  }

  private static void promise14Pass() {
    PolyglotPier x = new PolyglotPier();
    int half = function(x, ASH, 0, "h1 p0 n0 n-1 * p1 n1 n0 / p2 n0 n0 / p3 n9999 n9999 * p4");
    x.run(half, 0, 0);
    due("half to Birch", x.pass(ASH, 0, BIRCH, 0), 0);
    due("half", x.numberOf(BIRCH, 0), 0.5);
    due("half to Cedar", x.pass(BIRCH, 0, CEDAR, 0), 4);
    due("nothing changed", x.kindOf(CEDAR, 0), 'e');
    due("-0 to Birch", x.pass(ASH, 1, BIRCH, 1), 0);
    due("-0 is a double", x.kindOf(BIRCH, 1), 'd');
    due("-0", 1.0 / x.numberOf(BIRCH, 1), Double.NEGATIVE_INFINITY);
    due("-0 to Cedar", x.pass(ASH, 1, CEDAR, 1), 4);
    due("infinite to Birch", x.pass(ASH, 2, BIRCH, 2), 0);
    due("infinite", x.numberOf(BIRCH, 2), Double.POSITIVE_INFINITY);
    due("infinite to Cedar", x.pass(BIRCH, 2, CEDAR, 1), 4);
    due("no number to Birch", x.pass(ASH, 3, BIRCH, 3), 0);
    due("no number", Double.isNaN(x.numberOf(BIRCH, 3)), true);
    due("no number to Ash", x.pass(BIRCH, 3, ASH, 5), 0);
    due("no number", Double.isNaN(x.numberOf(ASH, 5)), true);
    due("no number to Cedar", x.pass(ASH, 3, CEDAR, 1), 4);
    due("wide to Birch", x.pass(ASH, 4, BIRCH, 4), 0);
    due("it is an int", x.kindOf(BIRCH, 4), 'i');
    due("at home", x.pass(ASH, 7, ASH, 0), 0);
    due("at home it stays", x.kindOf(ASH, 0), 'u');
    due("u to Birch", x.pass(ASH, 7, BIRCH, 0), 0);
    due("u to Birch", x.kindOf(BIRCH, 0), 'n');
    due("n to Cedar", x.pass(BIRCH, 0, CEDAR, 0), 0);
    due("n to Cedar", x.kindOf(CEDAR, 0), 'e');
    due("e to Ash", x.pass(CEDAR, 0, ASH, 7), 0);
    due("e to Ash", x.kindOf(ASH, 7), 'n');
    due("calls are no runs", x.crossings(), 0L);
  }

  private static void promise14PassBounds() {
    PolyglotPier x = new PolyglotPier();
    x.set(ASH, 0, MOST);
    x.set(CEDAR, 0, MOST);
    x.set(CEDAR, 1, LEAST);
    int up = function(x, CEDAR, 0, "g0 n1 + p0 g1 n1 - p1");
    due("an int", x.pass(CEDAR, 0, BIRCH, 0), 0);
    due("an int", x.pass(CEDAR, 1, BIRCH, 1), 0);
    due("least", x.numberOf(BIRCH, 1), -2147483648.0);
    x.set(ASH, 1, LEAST);
    due("the greatest int of Ash", x.pass(ASH, 0, BIRCH, 2), 0);
    due("it is an int", x.kindOf(BIRCH, 2), 'i');
    due("the least int of Ash", x.pass(ASH, 1, BIRCH, 2), 0);
    due("it is an int", x.kindOf(BIRCH, 2), 'i');
    x.run(up, 0, 0);
    due("a long that is no int", x.pass(CEDAR, 0, BIRCH, 0), 4);
    due("a long that is no int", x.pass(CEDAR, 1, BIRCH, 0), 4);
    due("a long that is a double", x.pass(CEDAR, 0, ASH, 0), 0);
    due("2^31", x.numberOf(ASH, 0), 2147483648.0);
    due("2^31 to Birch", x.pass(ASH, 0, BIRCH, 2), 0);
    due("2^31 is a double there", x.kindOf(BIRCH, 2), 'd');
    due("2^31 of Birch to Cedar", x.pass(BIRCH, 2, CEDAR, 3), 0);
    due("2^31 in Cedar", x.equal(CEDAR, 0, 3), true);
    x.set(CEDAR, 4, LEAST);
    int most = function(x, CEDAR, 0, "g4 g4 * p5 g5 g5 + p6 g6 n1 - p7 g7 n-1024 + n1 + p3");
    x.run(most, 0, 0);
    due("-2^63", x.numberOf(CEDAR, 6), -9223372036854775808.0);
    due("-2^63 to Ash", x.pass(CEDAR, 6, ASH, 6), 0);
    due("-2^63 back", x.pass(ASH, 6, CEDAR, 2), 0);
    due("-2^63 back", x.equal(CEDAR, 6, 2), true);
    due("2^63 - 1 to Ash", x.pass(CEDAR, 7, ASH, 7), 4);
    due("2^63 - 1024 to Ash", x.pass(CEDAR, 3, ASH, 3), 0);
    due("2^63 - 1024", x.numberOf(ASH, 3), 9223372036854774784.0);
    due("2^63 - 1024 back", x.pass(ASH, 3, CEDAR, 2), 0);
    due("2^63 - 1024 back", x.equal(CEDAR, 3, 2), true);
    int negate = function(x, ASH, 0, "n0 g6 - p6");
    x.run(negate, 0, 0);
    due("2^63 to Cedar", x.pass(ASH, 6, CEDAR, 2), 4);
    due("2^63 to Birch", x.pass(ASH, 6, BIRCH, 6), 0);
    due("2^63 in Birch", x.numberOf(BIRCH, 6), 9223372036854775808.0);
  }

  private static void promise14PassReferences() {
    PolyglotPier x = new PolyglotPier();
    x.make(ASH, 0);
    due("a proxy", x.pass(ASH, 0, CEDAR, 1), 0);
    due("a reference", x.kindOf(CEDAR, 1), 't');
    due("the thing", x.numberOf(CEDAR, 1), 0.0);
    due("back", x.pass(CEDAR, 1, BIRCH, 1), 0);
    due("back", x.pass(BIRCH, 1, ASH, 1), 0);
    due("the same one at home", x.equal(ASH, 0, 1), true);
    due("count", x.count(0), 3);
    x.run(function(x, CEDAR, 0, "k0 p2"), 0, 0);
    due("an escape", x.pass(CEDAR, 2, ASH, 0), 5);
    due("an escape", x.pass(CEDAR, 2, BIRCH, 0), 5);
    due("an escape at home", x.pass(CEDAR, 2, CEDAR, 3), 0);
    due("the same escape", x.equal(CEDAR, 2, 3), true);
    due("what is freed by it", x.pass(ASH, 5, ASH, 0), 0);
    due("count", x.count(0), 2);
  }

  private static void promises15And16PutAndGet() {
    PolyglotPier x = new PolyglotPier();
    x.make(CEDAR, 0);
    x.pass(CEDAR, 0, BIRCH, 0);
    x.pass(CEDAR, 0, ASH, 0);
    x.set(BIRCH, 1, 7);
    due("put over the border", x.put(BIRCH, 0, 2, 1), 0);
    due("get at home", x.get(CEDAR, 0, 2, 1), 0);
    due("a long", x.kindOf(CEDAR, 1), 'j');
    due("get in Ash", x.get(ASH, 0, 2, 1), 0);
    due("a double", x.kindOf(ASH, 1), 'd');
    due("7", x.numberOf(ASH, 1), 7.0);
    x.run(function(x, ASH, 0, "h1 p2"), 0, 0);
    due("half", x.put(ASH, 0, 2, 2), 4);
    due("nothing changed", x.get(CEDAR, 0, 2, 1), 0);
    due("nothing changed", x.numberOf(CEDAR, 1), 7.0);
    x.run(function(x, CEDAR, 0, "g0 k0 q1"), 0, 0);
    due("an escape", x.get(BIRCH, 0, 1, 0), 5);
    due("nothing changed", x.kindOf(BIRCH, 0), 't');
    due("an escape at home", x.get(CEDAR, 0, 1, 2), 0);
    due("an escape at home", x.kindOf(CEDAR, 2), 'k');
    due("another field", x.get(ASH, 0, 0, 3), 0);
    due("another field", x.kindOf(ASH, 3), 'n');
    x.make(ASH, 4);
    x.pass(ASH, 4, CEDAR, 4);
    due("an escape into Ash", x.put(CEDAR, 4, 0, 2), 5);
    due("a thing into its own field", x.put(ASH, 4, 0, 4), 0);
    due("count", x.count(1), 3);
    due("a field over its own thing", x.get(ASH, 4, 1, 4), 0);
    due("a ring is not freed", x.isThere(1), true);
    due("crossings", x.crossings(), 0L);
    PolyglotPier y = new PolyglotPier();
    y.make(ASH, 0);
    y.make(ASH, 1);
    y.put(ASH, 0, 0, 1);
    y.set(ASH, 1, 0);
    due("get over its own global", y.get(ASH, 0, 0, 0), 0);
    due("the first one is freed", y.isThere(0), false);
    due("the second one is there", y.count(1), 1);
  }

  private static void promises17To19Globals() {
    PolyglotPier x = new PolyglotPier();
    dueThrow("no number", NO_ELEMENT, () -> x.numberOf(ASH, 0));
    x.run(function(x, CEDAR, 0, "k0 p0 k0 p1 k1 p2"), 0, 0);
    dueThrow("no number", NO_ELEMENT, () -> x.numberOf(CEDAR, 0));
    due("kind", x.kindOf(CEDAR, 0), 'k');
    due("the same call and place", x.equal(CEDAR, 0, 1), true);
    due("another place", x.equal(CEDAR, 0, 2), false);
    x.pass(CEDAR, 0, CEDAR, 3);
    x.run(0, 0, 0);
    due("another call", x.equal(CEDAR, 0, 3), false);
    x.run(function(x, ASH, 0, "n0 p0 n0 n-1 * p1 n0 n0 / p2"), 0, 0);
    due("zeros", x.equal(ASH, 0, 1), true);
    due("no number's", x.equal(ASH, 2, 2), false);
    due("no number's kind", x.kindOf(ASH, 2), 'd');
    due("nothing and 0", x.equal(ASH, 0, 7), false);
    x.pass(BIRCH, 0, ASH, 6);
    due("both nothings", x.equal(ASH, 6, 7), true);
    x.set(BIRCH, 1, 3);
    x.run(function(x, BIRCH, 0, "h6 p2 h7 p3"), 0, 0);
    due("an int and a double", x.equal(BIRCH, 1, 2), true);
    due("an int and another double", x.equal(BIRCH, 1, 3), false);
    x.make(BIRCH, 4);
    x.make(BIRCH, 5);
    x.set(BIRCH, 6, 1);
    due("two things", x.equal(BIRCH, 4, 5), false);
    due("a thing and its number", x.equal(BIRCH, 5, 6), false);
    due("the same thing", x.equal(BIRCH, 5, 5), true);
    due("the number of a thing", x.numberOf(BIRCH, 5), 1.0);
  }

  // ---- heaps

  private static void promises20To24Things() {
    PolyglotPier x = new PolyglotPier();
    dueThrow("things of 3", NO_INDEX, () -> x.things(3));
    dueThrow("things of -1", NO_INDEX, () -> x.things(-1));
    dueThrow("isThere", NO_INDEX, () -> x.isThere(0));
    dueThrow("count", NO_INDEX, () -> x.count(0));
    dueThrow("isHeld", NO_INDEX, () -> x.isHeld(0));
    x.make(ASH, 0);
    x.make(BIRCH, 0);
    x.make(CEDAR, 0);
    x.make(CEDAR, 1);
    due("made", x.made(), 4);
    due("things", x.things(ASH), 1);
    due("things", x.things(BIRCH), 1);
    due("things", x.things(CEDAR), 2);
    due("isThere", x.isThere(3), true);
    dueThrow("isThere -1", NO_INDEX, () -> x.isThere(-1));
    dueThrow("isThere 4", NO_INDEX, () -> x.isThere(4));
    dueThrow("count 4", NO_INDEX, () -> x.count(4));
    dueThrow("isHeld 4", NO_INDEX, () -> x.isHeld(4));
    due("count of Ash", x.count(0), 1);
    due("count of Birch", x.count(1), 0);
    due("no handle", x.isHeld(1), false);
    x.pass(BIRCH, 0, ASH, 1);
    x.pass(BIRCH, 0, ASH, 2);
    due("count of Birch", x.count(1), 2);
    due("a handle", x.isHeld(1), true);
    x.put(ASH, 0, 0, 1);
    due("and of a field", x.count(1), 3);
    x.put(CEDAR, 0, 0, 1);
    x.put(BIRCH, 0, 0, 0);
    due("references of Birch and Cedar are not counted", x.count(3), 0);
    due("no proxy", x.isHeld(0), false);
    x.pass(ASH, 0, CEDAR, 7);
    x.pass(ASH, 0, BIRCH, 7);
    x.put(CEDAR, 0, 1, 7);
    due("a proxy", x.isHeld(0), true);
    due("it counts once", x.count(0), 2);
    x.set(CEDAR, 7, 0);
    x.set(BIRCH, 7, 0);
    x.set(CEDAR, 3, 0);
    x.put(CEDAR, 0, 1, 3);
    due("it did at some time", x.isHeld(0), true);
    due("collect", x.collect(), 0);
    due("no longer", x.isHeld(0), false);
    due("count", x.count(0), 1);
    due("set frees", x.set(ASH, 0, 0), 1);
    due("isThere", x.isThere(0), false);
    dueThrow("count of a freed one", NO_ELEMENT, () -> x.count(0));
    dueThrow("isHeld of a freed one", NO_ELEMENT, () -> x.isHeld(0));
    due("its field counts no more", x.count(1), 2);
    due("things", x.things(ASH), 0);
    due("made", x.made(), 4);
    due("freed", x.freed(), 1);
  }

  private static void promise24HeldInARun() {
    PolyglotPier x = new PolyglotPier();
    x.make(ASH, 0);
    int seen = function(x, BIRCH, 1, "l0 s2");
    x.run(function(x, ASH, 0, "g0 c" + seen), 0, 0);
    due("a local is no global", x.isHeld(0), false);
    int kept = function(x, BIRCH, 1, "l0 p0 n0 p0");
    x.run(function(x, ASH, 0, "g0 c" + kept), 0, 0);
    due("a global for a while", x.isHeld(0), true);
    x.collect();
    due("not since", x.isHeld(0), false);
    int put = function(x, CEDAR, 1, "o s1 l1 l0 q0");
    x.run(function(x, ASH, 0, "g0 c" + put), 0, 0);
    due("a field of a thing that none refers to", x.isHeld(0), true);
    due("it is there until collect", x.things(CEDAR), 1);
    due("set", x.set(ASH, 0, 0), 0);
    due("collect", x.collect(), 2);
    due("freed", x.freed(), 2);
    x.run(function(x, ASH, 0, "o s0 o s1 l0 l1 q0 l1 l0 q0 l0 f0 r"), 0, 0);
    due("a ring of Ash", x.things(ASH), 2);
    due("collect", x.collect(), 0);
    due("collectRings", x.collectRings(), 2);
  }

  private static void promise25Collect() {
    PolyglotPier x = new PolyglotPier();
    due("collect nothing", x.collect(), 0);
    x.make(BIRCH, 0);
    x.make(CEDAR, 0);
    x.pass(CEDAR, 0, BIRCH, 1);
    x.put(BIRCH, 0, 0, 1);
    x.pass(BIRCH, 0, CEDAR, 1);
    x.put(CEDAR, 0, 0, 1);
    x.set(BIRCH, 1, 0);
    x.set(CEDAR, 0, 0);
    x.set(CEDAR, 1, 0);
    due("reached over a field", x.collect(), 0);
    x.set(BIRCH, 0, 0);
    due("a ring of Birch and Cedar", x.collect(), 2);
    // Birch 2 refers to Ash 3, which refers to Cedar 4, which refers to Birch 5.
    x.make(BIRCH, 0);
    x.make(ASH, 0);
    x.make(CEDAR, 0);
    x.make(BIRCH, 1);
    x.pass(BIRCH, 1, CEDAR, 1);
    x.put(CEDAR, 0, 1, 1);
    x.pass(CEDAR, 0, ASH, 1);
    x.put(ASH, 0, 2, 1);
    x.pass(ASH, 0, BIRCH, 2);
    x.put(BIRCH, 0, 0, 2);
    x.set(ASH, 0, 0);
    x.set(ASH, 1, 0);
    x.set(CEDAR, 0, 0);
    x.set(CEDAR, 1, 0);
    x.set(BIRCH, 1, 0);
    x.set(BIRCH, 2, 0);
    due("all are held", x.collect(), 0);
    x.set(BIRCH, 0, 0);
    due("Birch 2, and Ash 3 by it", x.collect(), 2);
    due("Cedar 4 had a handle", x.isThere(4), true);
    due("and Birch 5 by it", x.isThere(5), true);
    due("no handle now", x.isHeld(4), false);
    due("the rest", x.collect(), 2);
    due("freed", x.freed(), 6);
  }

  private static void promise26CollectRings() {
    PolyglotPier x = new PolyglotPier();
    due("collectRings nothing", x.collectRings(), 0);
    x.make(ASH, 0);
    x.put(ASH, 0, 0, 0);
    x.set(ASH, 0, 0);
    due("a ring in Ash stays", x.collect(), 0);
    due("a ring in Ash", x.collectRings(), 1);
    x.make(ASH, 0);
    x.make(CEDAR, 0);
    x.pass(CEDAR, 0, ASH, 1);
    x.put(ASH, 0, 0, 1);
    x.pass(ASH, 0, CEDAR, 1);
    x.put(CEDAR, 0, 0, 1);
    x.pass(ASH, 0, BIRCH, 1);
    x.set(ASH, 0, 0);
    x.set(ASH, 1, 0);
    x.set(CEDAR, 0, 0);
    x.set(CEDAR, 1, 0);
    due("a ring that a global refers to", x.collectRings(), 0);
    due("a proxy", x.isHeld(1), true);
    x.set(BIRCH, 1, 0);
    due("the ring stays", x.collect(), 0);
    due("the ring", x.collectRings(), 2);
    x.make(ASH, 0);
    x.pass(ASH, 0, BIRCH, 0);
    x.set(BIRCH, 0, 0);
    due("a proxy since", x.isHeld(3), true);
    due("collectRings", x.collectRings(), 0);
    due("no proxy", x.isHeld(3), false);
    x.make(BIRCH, 5);
    x.set(BIRCH, 5, 0);
    due("a thing of Birch", x.collectRings(), 1);
    due("the thing of Ash", x.count(3), 1);
  }

  // ---- figures

  private static void promises27To30Figures() {
    PolyglotPier x = new PolyglotPier();
    dueThrow("none was made", ArithmeticException.class, () -> x.freedShare());
    x.make(ASH, 0);
    due("none is freed", x.freedShare(), 0.0f);
    x.make(ASH, 0);
    x.make(ASH, 1);
    due("one of three", x.freedShare(), 1.0f / 3.0f);
    due("freed", x.freed(), 1);
    x.set(ASH, 0, 0);
    x.set(ASH, 1, 0);
    due("all", x.freedShare(), 1.0f);
    due("freed", x.freed(), 3);
    due("made", x.made(), 3);
    due("sound", x.isSound(), true);
    PolyglotPier y = new PolyglotPier();
    int two = function(y, CEDAR, 2, "l0 l1 + r");
    int first = function(y, BIRCH, 2, "l0 h1 c0 r");
    y.run(two, 1, 2);
    due("a run's own arguments do not cross", y.crossings(), 0L);
    y.run(first, 1, 2);
    due("up to the first one that could not", y.crossings(), 2L);
    int both = function(y, BIRCH, 2, "l0 l1 c0 r");
    y.run(both, 1, 2);
    due("arguments and the result", y.crossings(), 5L);
    y.run(function(y, ASH, 0, "n1 n2 c1"), 0, 0);
    due("arguments, one of an argument, and a throw", y.crossings(), 10L);
    due("sound", y.isSound(), true);
  }

  public static void main(String[] args) {
    promise1ANewObject();
    promise2AddFunction();
    promise3Code();
    promise4Guard();
    promise5RunPushes();
    promise5RunReckons();
    promise5RunCompares();
    promise5RunThings();
    promise5RunCalls();
    promise5RunLimit();
    promise5RunThrows();
    promise5RunStackOfATakenThrow();
    promise5RunEscapes();
    promises6To8Results();
    promises9To11Traces();
    promises12To19WrongIndices();
    promise12Set();
    promise13Make();
    promise14Pass();
    promise14PassBounds();
    promise14PassReferences();
    promises15And16PutAndGet();
    promises17To19Globals();
    promises20To24Things();
    promise24HeldInARun();
    promise25Collect();
    promise26CollectRings();
    promises27To30Figures();
    end();
  }
}
