/**
 * "Functions" and "Runs": for each sentence of the document that names a boundary case the last case on the one side
 * and the first one on the other.
 */
public final class FunctionsTest extends Checks {
  // Codes that leave 2^62 in local 2 of Cedar, if local 0 is the least int.
  private static final String HALF_OF_2_64 = "l0 l0 * s2 ";
  private static final String GREATEST = HALF_OF_2_64 + "l2 n1 - l2 + ";
  private static final String LEAST_LONG = HALF_OF_2_64 + "l2 l2 + ";

  // ---- functions

  // "At most 9 functions are numbered from 0, each of a language".
  private static void nineFunctions() {
    PolyglotPier x = new PolyglotPier();
    for (int i = 0; i < 9; i++) {
      due("the number of a function", function(x, i % 3, 0, "n" + i + " r"), i);
    }
    dueThrow("a 10th", NO_STATE, () -> x.addFunction(0, 0));
    for (int i = 0; i < 9; i++) {
      due("each one is its own", told(x, i), "r " + number(i % 3, i));
    }
  }

  // "with 0 to 2 parameters": of the arguments of a run those have a meaning, and of a stack those are popped.
  private static void parameters() {
    for (int language = ASH; language <= CEDAR; language++) {
      String none = "r " + nothing(language);
      for (int parameters = 0; parameters <= 2; parameters++) {
        PolyglotPier x = new PolyglotPier();
        int first = function(x, language, parameters, "l0 r");
        int second = function(x, language, parameters, "l1 r");
        due("the first argument", told(x, first, 5, 6), parameters > 0 ? "r " + number(language, 5) : none);
        due("the second argument", told(x, second, 5, 6), parameters > 1 ? "r " + number(language, 6) : none);
        due("the first argument of a call", told(x, function(x, language, 0, "n7 n8 n9 c0 r")),
            parameters == 0 ? none : "r " + number(language, parameters == 1 ? 9 : 8));
        due("the second argument of a call", told(x, function(x, language, 0, "n7 n8 n9 c1 r")),
            parameters == 2 ? "r " + number(language, 9) : none);
        due("what a call has not popped", told(x, function(x, language, 0, "n7 n8 n9 c0 s0 r")),
            "r " + number(language, 9 - parameters));
      }
    }
  }

  // "at most 20 codes, at the places from 0 on".
  private static void twentyCodes() {
    PolyglotPier x = new PolyglotPier();
    x.addFunction(ASH, 0);
    due("no code", told(x, 0), "r u");
    fill(x, 0, idle(0, 18) + "n5 r");
    due("the 20th code", told(x, 0), "r d 5.0");
    dueThrow("a 21st", NO_STATE, () -> x.code(0, 'r', 0));
    due("the 20th code is still the last one", told(x, 0), "r d 5.0");
  }

  // A run's arguments are numbers of its language; the greatest and the least int are.
  private static void argumentsOfARun() {
    for (int language = ASH; language <= CEDAR; language++) {
      String greatest = language == ASH ? "d 2.147483647E9" : number(language, MOST);
      String least = language == ASH ? "d -2.147483648E9" : number(language, LEAST);
      due("the greatest", come(language, "l0 r", MOST, LEAST), "r " + greatest);
      due("the least", come(language, "l1 r", MOST, LEAST), "r " + least);
    }
  }

  // ---- locals, globals and the stack

  // "A call has the locals 0 to 3".
  private static void locals() {
    for (int language = ASH; language <= CEDAR; language++) {
      for (int local = 0; local < 4; local++) {
        due("a local", come(language, "n9 s" + local + " l" + local + " r", 1, 2), "r " + number(language, 9));
      }
      due("all of them", come(language, "n5 s0 n6 s1 n7 s2 n8 s3 l0 l1 - l2 * l3 + r"), "r " + number(language, 1));
      for (int no : new int[] {-1, 4, 5, -9999, 9999}) {
        due("l of no local", come(language, "l" + no + " r"), fault(language, 8));
        due("s of no local", come(language, "n1 s" + no + " r"), fault(language, 8));
      }
    }
  }

  // "the others the nothing of the language, 'u' for Ash": also if an earlier call had something there.
  private static void otherLocals() {
    for (int language = ASH; language <= CEDAR; language++) {
      for (int local = 0; local < 4; local++) {
        PolyglotPier x = new PolyglotPier();
        int reads = function(x, language, 0, "l" + local + " r");
        int writes = function(x, language, 0, "n1 s0 n2 s1 n3 s2 n4 s3");
        int both = function(x, language, 0, "c" + writes + " n1 s0 n2 s1 n3 s2 n4 s3 c" + reads + " r");
        due("a local", told(x, both), "r " + nothing(language));
        due("a local of the next run", told(x, reads), "r " + nothing(language));
      }
    }
  }

  // "'g' pushes the global of the language with this number, 'p' pops into it": the globals 0 to 7.
  private static void globals() {
    for (int language = ASH; language <= CEDAR; language++) {
      for (int global = 0; global < 8; global++) {
        PolyglotPier x = new PolyglotPier();
        int reads = function(x, language, 0, "g" + global + " r");
        due("a global at first", told(x, reads), "r " + nothing(language));
        due("p", told(x, function(x, language, 0, "n9 p" + global)), "r " + nothing(language));
        due("g", told(x, reads), "r " + number(language, 9));
        for (int i = 0; i < 24; i++) {
          boolean isIt = i == language * 8 + global;
          due("no other one is set", x.kindOf(i / 8, i % 8), isIt ? "dij".charAt(language) : nothing(i / 8));
        }
      }
      for (int no : new int[] {-1, 8, 9, -9999, 9999}) {
        due("g of no global", come(language, "g" + no + " r"), fault(language, 8));
        due("p of no global", come(language, "n1 p" + no + " r"), fault(language, 8));
      }
    }
  }

  // "'n' pushes the number as one of the language; 'h' half of it, in Ash and Birch".
  private static void numbersAndHalves() {
    for (int number : new int[] {-9999, -2, -1, 0, 1, 2, 9999}) {
      for (int language = ASH; language <= CEDAR; language++) {
        due("n", come(language, "n" + number + " r"), "r " + number(language, number));
        String half = language == CEDAR ? "x j 8" : "r d " + number / 2.0;
        due("h", come(language, "h" + number + " r"), half);
      }
    }
  }

  // "a stack", of which no bound is told: it has as much as the codes of a run can push.
  private static void highStack() {
    for (int language = ASH; language <= CEDAR; language++) {
      due("380 numbers", come(language, times(19, "n1") + "j0"), "l");
      due("252 numbers", come(language, times(11, "n1") + "n7 l0 n1 - s0 l0 z19 j0 r", 21, 0), "r " + number(language, 7));
      due("the sum of 28 of 40", come(language, "n1 n1 l0 n1 - s0 l0 z9 j0 + l1 n1 - s1 l1 z17 j9 r", 20, 27),
          "r " + number(language, 28));
      PolyglotPier x = new PolyglotPier();
      int deep = function(x, language, 1, times(11, "n7") + "l0 z18 l0 n1 - c0 + r r");
      due("the stacks of 12 calls", told(x, deep, 11, 0), "r " + number(language, 84));
    }
  }

  // ---- numbers

  // "it is the fault 1 if ints overflow".
  private static void intsOverflow() {
    due("greatest + 0", come(BIRCH, "l0 l1 + r", MOST, 0), "r i 2147483647");
    due("greatest + 1", come(BIRCH, "l0 l1 + r", MOST, 1), "x i 1");
    due("greatest - 1 + 1", come(BIRCH, "l0 l1 + r", MOST - 1, 1), "r i 2147483647");
    due("greatest + greatest", come(BIRCH, "l0 l1 + r", MOST, MOST), "x i 1");
    due("least + 0", come(BIRCH, "l0 l1 + r", LEAST, 0), "r i -2147483648");
    due("least + -1", come(BIRCH, "l0 l1 + r", LEAST, -1), "x i 1");
    due("-1 + least", come(BIRCH, "l0 l1 + r", -1, LEAST), "x i 1");
    due("least + least", come(BIRCH, "l0 l1 + r", LEAST, LEAST), "x i 1");
    due("least + greatest", come(BIRCH, "l0 l1 + r", LEAST, MOST), "r i -1");
    due("least - 0", come(BIRCH, "l0 l1 - r", LEAST, 0), "r i -2147483648");
    due("least - 1", come(BIRCH, "l0 l1 - r", LEAST, 1), "x i 1");
    due("greatest - -1", come(BIRCH, "l0 l1 - r", MOST, -1), "x i 1");
    due("greatest - greatest", come(BIRCH, "l0 l1 - r", MOST, MOST), "r i 0");
    due("-1 - greatest", come(BIRCH, "l0 l1 - r", -1, MOST), "r i -2147483648");
    due("-2 - greatest", come(BIRCH, "l0 l1 - r", -2, MOST), "x i 1");
    due("-1 - least", come(BIRCH, "l0 l1 - r", -1, LEAST), "r i 2147483647");
    due("0 - least", come(BIRCH, "l0 l1 - r", 0, LEAST), "x i 1");
    due("46340 * 46340", come(BIRCH, "l0 l1 * r", 46340, 46340), "r i 2147395600");
    due("46341 * 46341", come(BIRCH, "l0 l1 * r", 46341, 46341), "x i 1");
    due("2^16 * -2^15", come(BIRCH, "l0 l1 * r", 65536, -32768), "r i -2147483648");
    due("2^16 * 2^15", come(BIRCH, "l0 l1 * r", 65536, 32768), "x i 1");
    due("least * 1", come(BIRCH, "l0 l1 * r", LEAST, 1), "r i -2147483648");
    due("least * -1", come(BIRCH, "l0 l1 * r", LEAST, -1), "x i 1");
    due("-1 * least", come(BIRCH, "l0 l1 * r", -1, LEAST), "x i 1");
    due("greatest * -1", come(BIRCH, "l0 l1 * r", MOST, -1), "r i -2147483647");
    due("2^16 * 2^16", come(BIRCH, "l0 l1 * r", 65536, 65536), "x i 1");
    due("least * least", come(BIRCH, "l0 l1 * r", LEAST, LEAST), "x i 1");
  }

  // "in Birch of two ints an int, otherwise a double": such ones do not overflow.
  private static void intsAndDoubles() {
    due("greatest + a double", come(BIRCH, "l0 h2 + r", MOST, 0), "r d 2.147483648E9");
    due("a double + greatest", come(BIRCH, "h2 l0 + r", MOST, 0), "r d 2.147483648E9");
    due("least - a double", come(BIRCH, "l0 h2 - r", LEAST, 0), "r d -2.147483649E9");
    due("least * a double", come(BIRCH, "l0 h-2 * r", LEAST, 0), "r d 2.147483648E9");
    due("least / a double", come(BIRCH, "l0 h-2 / r", LEAST, 0), "r d 2.147483648E9");
    due("two doubles", come(BIRCH, "h4 h6 + r"), "r d 5.0");
    due("two doubles that are one", come(BIRCH, "h1 h1 - r"), "r d 0.0");
    due("an int / a double", come(BIRCH, "n7 h4 / r"), "r d 3.5");
    due("a double / an int", come(BIRCH, "h7 n2 / r"), "r d 1.75");
    due("an int / 0 that is a double", come(BIRCH, "n1 h0 / r"), "r d Infinity");
    due("a double / 0 that is an int", come(BIRCH, "h-2 n0 / r"), "r d -Infinity");
    due("0 / 0 with a double", come(BIRCH, "n0 h0 / r"), "r d NaN");
  }

  // "in Ash of doubles; in Birch .. otherwise a double": infinite ones, the zeros, and what is not a number.
  private static void doublesOfAllKinds() {
    String[] ash = {"n0", "n0 n-1 *", "n1", "n-1", "h1", "n1 n0 /", "n-1 n0 /", "n0 n0 /"};
    String[] birch = {"h0", "h0 n-1 *", "h2", "h-2", "h1", "n1 h0 /", "n-1 h0 /", "h0 h0 /"};
    double[] values = {0.0, -0.0, 1.0, -1.0, 0.5, Double.POSITIVE_INFINITY, Double.NEGATIVE_INFINITY, Double.NaN};
    for (int i = 0; i < values.length; i++) {
      for (int j = 0; j < values.length; j++) {
        for (char op : "+-*/".toCharArray()) {
          String wanted = "r d " + reckoned(op, values[i], values[j]);
          due(ash[i] + " " + ash[j] + " " + op, come(ASH, ash[i] + " " + ash[j] + " " + op + " r"), wanted);
          due(birch[i] + " " + birch[j] + " " + op, come(BIRCH, birch[i] + " " + birch[j] + " " + op + " r"), wanted);
        }
        int less = values[i] < values[j] ? 1 : 0;
        int same = values[i] == values[j] ? 1 : 0;
        due(ash[i] + " < " + ash[j], come(ASH, ash[i] + " " + ash[j] + " < r"), "r " + number(ASH, less));
        due(birch[i] + " < " + birch[j], come(BIRCH, birch[i] + " " + birch[j] + " < r"), "r " + number(BIRCH, less));
        due(ash[i] + " = " + ash[j], come(ASH, ash[i] + " " + ash[j] + " = r"), "r " + number(ASH, same));
        due(birch[i] + " = " + birch[j], come(BIRCH, birch[i] + " " + birch[j] + " = r"), "r " + number(BIRCH, same));
      }
    }
  }

  private static double reckoned(char op, double lower, double upper) {
    return op == '+' ? lower + upper : op == '-' ? lower - upper : op == '*' ? lower * upper : lower / upper;
  }

  // Doubles as great as there are, their overflow to an infinite one, and as near to 0 as there are.
  private static void greatestDoubles() {
    String[] codes = {"g3", "g3 n-1 *", "g4", "g4 n-1 *", "g5", "n0", "n1"};
    double[] values = {Double.MAX_VALUE, -Double.MAX_VALUE, Double.MIN_VALUE, -Double.MIN_VALUE,
        Double.POSITIVE_INFINITY, 0.0, 1.0};
    for (int i = 0; i < values.length; i++) {
      for (int j = 0; j < values.length; j++) {
        PolyglotPier x = withGreatestDoubles();
        for (char op : "+-*/".toCharArray()) {
          int function = function(x, ASH, 0, codes[i] + " " + codes[j] + " " + op + " r");
          due(codes[i] + " " + codes[j] + " " + op, told(x, function), "r d " + reckoned(op, values[i], values[j]));
        }
        int less = function(x, ASH, 0, codes[i] + " " + codes[j] + " < r");
        due(codes[i] + " < " + codes[j], told(x, less), "r " + number(ASH, values[i] < values[j] ? 1 : 0));
      }
    }
    PolyglotPier x = withGreatestDoubles();
    due("half of the least one is 0", told(x, function(x, ASH, 0, "g4 n2 / z6 n1 r n2 r")), "r d 2.0");
    due("the least one is not", told(x, function(x, ASH, 0, "g4 z4 n1 r n2 r")), "r d 1.0");
  }

  /** Globals 3, 4 and 5 of Ash: the greatest double, the least one above 0, and the infinite one. */
  private static PolyglotPier withGreatestDoubles() {
    PolyglotPier x = new PolyglotPier();
    x.set(ASH, 0, 2);
    int square = function(x, ASH, 0, "g0 g0 * p0");
    for (int i = 0; i < 9; i++) {
      x.run(square, 0, 0);
    }
    // 2^1023 and 2^52, and of them 2^1023 - 2^971 + 2^1023.
    x.run(function(x, ASH, 1, "g0 n2 / g0 * p1 l0 n-1024 * n2048 * p2"), LEAST, 0);
    x.run(function(x, ASH, 0, "g1 g1 g2 / - g1 + p3 n1 g1 / n2 * g2 / p4 n1 n0 / p5"), 0, 0);
    due("the greatest one", x.numberOf(ASH, 3), Double.MAX_VALUE);
    due("the least one above 0", x.numberOf(ASH, 4), Double.MIN_VALUE);
    return x;
  }

  // "in Cedar of longs, which wrap".
  private static void longsWrap() {
    due("the greatest long", come(CEDAR, GREATEST + "r", LEAST, 0), "r j " + Long.MAX_VALUE);
    due("the least long", come(CEDAR, LEAST_LONG + "r", LEAST, 0), "r j " + Long.MIN_VALUE);
    due("greatest + 1", come(CEDAR, GREATEST + "n1 + r", LEAST, 0), "r j " + Long.MIN_VALUE);
    due("greatest - -1", come(CEDAR, GREATEST + "n-1 - r", LEAST, 0), "r j " + Long.MIN_VALUE);
    due("least - 1", come(CEDAR, LEAST_LONG + "n1 - r", LEAST, 0), "r j " + Long.MAX_VALUE);
    due("least + -1", come(CEDAR, LEAST_LONG + "n-1 + r", LEAST, 0), "r j " + Long.MAX_VALUE);
    due("least + least", come(CEDAR, LEAST_LONG + "s3 l3 l3 + r", LEAST, 0), "r j 0");
    due("greatest * 2", come(CEDAR, GREATEST + "n2 * r", LEAST, 0), "r j -2");
    due("greatest * greatest", come(CEDAR, GREATEST + "s3 l3 l3 * r", LEAST, 0), "r j 1");
    due("least * -1", come(CEDAR, LEAST_LONG + "n-1 * r", LEAST, 0), "r j " + Long.MIN_VALUE);
    due("least / -1", come(CEDAR, LEAST_LONG + "n-1 / r", LEAST, 0), "r j " + Long.MIN_VALUE);
    due("0 - least", come(CEDAR, "n0 " + LEAST_LONG + "- r", LEAST, 0), "r j " + Long.MIN_VALUE);
    due("more than an int", come(CEDAR, "l0 l1 + r", MOST, 1), "r j 2147483648");
    due("less than an int", come(CEDAR, "l0 l1 - r", LEAST, 1), "r j -2147483649");
  }

  // "'/' of ints and of longs cuts towards 0".
  private static void divisionCuts() {
    int[][] cases = {{7, 2, 3}, {-7, 2, -3}, {7, -2, -3}, {-7, -2, 3}, {1, 2, 0}, {-1, 2, 0}, {6, 3, 2}, {-6, 3, -2},
        {0, 5, 0}, {MOST, MOST, 1}, {LEAST, LEAST, 1}, {LEAST, 1, LEAST}, {LEAST, 2, -1073741824}, {MOST, LEAST, 0},
        {LEAST, MOST, -1}, {-5, 3, -1}, {5, 3, 1}};
    for (int[] of : cases) {
      due("/ of ints", come(BIRCH, "l0 l1 / r", of[0], of[1]), "r i " + of[2]);
      due("/ of longs", come(CEDAR, "l0 l1 / r", of[0], of[1]), "r j " + of[2]);
      due("/ of doubles", come(ASH, "l0 l1 / r", of[0], of[1]), "r d " + (double) of[0] / (double) of[1]);
    }
  }

  // "and is the fault 2 by 0, and in Birch the least int by -1 overflows".
  private static void divisionByZero() {
    for (int number : new int[] {0, 1, -1, MOST, LEAST}) {
      due("/ of ints by 0", come(BIRCH, "l0 l1 / r", number, 0), "x i 2");
      due("/ of longs by 0", come(CEDAR, "l0 l1 / r", number, 0), "x j 2");
      due("/ of doubles by 0", come(ASH, "l0 l1 / r", number, 0), "r d " + number / 0.0);
    }
    due("the least int by -1", come(BIRCH, "l0 l1 / r", LEAST, -1), "x i 1");
    due("the one above it by -1", come(BIRCH, "l0 l1 / r", LEAST + 1, -1), "r i 2147483647");
    due("the least int by -2", come(BIRCH, "l0 l1 / r", LEAST, -2), "r i 1073741824");
    due("the least int of Cedar by -1", come(CEDAR, "l0 l1 / r", LEAST, -1), "r j 2147483648");
  }

  // "pop two and push what comes of the lower one and the upper one".
  private static void lowerAndUpper() {
    for (int language = ASH; language <= CEDAR; language++) {
      due("-", come(language, "l0 l1 - r", 9, 4), "r " + number(language, 5));
      due("/", come(language, "l0 l1 / r", 8, 4), "r " + number(language, 2));
      due("<", come(language, "l0 l1 < r", 4, 8), "r " + number(language, 1));
      due("two are popped, and one is pushed", come(language, "n7 n1 n2 + s0 r"), "r " + number(language, 7));
      due("two are popped, and one is pushed", come(language, "n7 n1 n2 + + r"), "r " + number(language, 10));
      due("two are popped by <", come(language, "n7 n1 n2 < s0 r"), "r " + number(language, 7));
      due("two are popped by =", come(language, "n7 n1 n2 = s0 r"), "r " + number(language, 7));
    }
  }

  // "'<' pops two numbers and pushes 1 or 0".
  private static void less() {
    int[][] cases = {{0, 0, 0}, {0, 1, 1}, {1, 0, 0}, {-1, 0, 1}, {LEAST, MOST, 1}, {MOST, LEAST, 0}, {MOST, MOST, 0},
        {MOST - 1, MOST, 1}, {LEAST, LEAST + 1, 1}, {LEAST, LEAST, 0}};
    for (int[] of : cases) {
      for (int language = ASH; language <= CEDAR; language++) {
        due("<", come(language, "l0 l1 < r", of[0], of[1]), "r " + number(language, of[2]));
      }
      due("< of an int and a double", come(BIRCH, "l0 l1 h0 + < r", of[0], of[1]), "r i " + of[2]);
      due("< of a double and an int", come(BIRCH, "l0 h0 + l1 < r", of[0], of[1]), "r i " + of[2]);
    }
    due("< of the greatest long and the one before", come(CEDAR, GREATEST + "s3 l3 n1 - l3 < r", LEAST, 0), "r j 1");
    due("< of the least long and the greatest one", come(CEDAR, LEAST_LONG + "s3 l3 l3 n1 - < r", LEAST, 0), "r j 1");
    due("< of 1 and 1.5", come(BIRCH, "n1 h3 < r"), "r i 1");
    due("< of 2 and 1.5", come(BIRCH, "n2 h3 < r"), "r i 0");
    due("< of 1.5 and 1", come(BIRCH, "h3 n1 < r"), "r i 0");
    due("< of 1.5 and 2", come(BIRCH, "h3 n2 < r"), "r i 1");
    due("< of -1.5 and -1", come(BIRCH, "h-3 n-1 < r"), "r i 1");
    due("< of -1 and -1.5", come(BIRCH, "n-1 h-3 < r"), "r i 0");
    due("< of half", come(ASH, "h1 n1 < r"), "r d 1.0");
    due("< of zeros", come(ASH, "n0 n-1 * n0 < r"), "r d 0.0");
    due("< of zeros", come(ASH, "n0 n0 n-1 * < r"), "r d 0.0");
    due("< of infinite ones", come(ASH, "n-1 n0 / n1 n0 / < r"), "r d 1.0");
    due("< of what is no number", come(ASH, "n0 n0 / n1 < r"), "r d 0.0");
    due("< with what is no number", come(ASH, "n-1 n0 n0 / < r"), "r d 0.0");
  }

  // ---- '=', 'z' and 'j'

  // "'=' pops two values and pushes 1 or 0, as equal() tells": each kind with each one.
  private static void equalValues() {
    String[] ash = {"n0", "n0 n-1 *", "n1", "h1", "n0 n0 /", "l3", "g7", "g1", "g2"};
    int[] ashClasses = {0, 0, 1, 2, -1, 3, 3, 4, 5};
    String[] birch = {"n0", "h0", "h0 n-1 *", "n1", "h2", "h1", "h0 n0 /", "l3", "g1", "g2"};
    int[] birchClasses = {0, 0, 0, 1, 1, 2, -1, 3, 4, 5};
    String[] cedar = {"n0", "n1", "l3", "g7", "k0", "k1", "g1", "g2", "g3"};
    int[] cedarClasses = {0, 1, 2, 2, 3, 4, 5, 6, 7};
    equalsAll(ASH, ash, ashClasses);
    equalsAll(BIRCH, birch, birchClasses);
    equalsAll(CEDAR, cedar, cedarClasses);
  }

  private static void equalsAll(int language, String[] values, int[] classes) {
    for (int i = 0; i < values.length; i++) {
      for (int j = 0; j < values.length; j++) {
        PolyglotPier x = new PolyglotPier();
        x.make(language, 1);
        x.make(language, 2);
        // Of Ash global 7 is the other nothing; of Cedar global 3 is an escape to an earlier call.
        x.pass(BIRCH, 7, ASH, 7);
        x.run(function(x, CEDAR, 0, "k0 p3"), 0, 0);
        boolean same = classes[i] == classes[j] && classes[i] >= 0;
        String what = values[i] + " = " + values[j] + " in " + language;
        int run = function(x, language, 0, values[i] + " " + values[j] + " = " + values[i] + " p5 " + values[j] + " p6 r");
        due(what, told(x, run), "r " + number(language, same ? 1 : 0));
        due(what + " by equal()", x.equal(language, 5, 6), same);
        due(what + " by equal(), turned", x.equal(language, 6, 5), same);
        due(what + " by equal(), itself", x.equal(language, 5, 5), classes[i] >= 0);
      }
    }
  }

  // "in Cedar also escapes to the same call and place".
  private static void equalEscapes() {
    PolyglotPier x = new PolyglotPier();
    int same = function(x, CEDAR, 0, "k0 p0 k0 p1 k1 p2");
    due("escapes", told(x, same), "r e");
    due("to the same call and place", x.equal(CEDAR, 0, 1), true);
    due("to another place", x.equal(CEDAR, 0, 2), false);
    x.pass(CEDAR, 0, CEDAR, 3);
    due("the same call in the next run", told(x, same), "r e");
    due("is another call", x.equal(CEDAR, 0, 3), false);
    int inner = function(x, CEDAR, 0, "k0 r");
    due("two calls of one function", told(x, function(x, CEDAR, 0, "c" + inner + " c" + inner + " = r")), "r j 0");
    due("a call and its caller", told(x, function(x, CEDAR, 0, "k0 c" + inner + " = r")), "r j 0");
  }

  // "equal .. two globals of a language", longs that are no doubles among them.
  private static void equalWide() {
    PolyglotPier x = new PolyglotPier();
    int set = function(x, CEDAR, 2, GREATEST + "p0 " + "l2 n1 - l2 + n1 - p1");
    x.run(set, LEAST, 0);
    due("the greatest long and the one before", x.equal(CEDAR, 0, 1), false);
    due("both are the same double", x.numberOf(CEDAR, 0), x.numberOf(CEDAR, 1));
    x.set(BIRCH, 0, MOST);
    x.run(function(x, BIRCH, 0, "g0 h0 + p1 g0 h1 - p2"), 0, 0);
    due("the greatest int and its double", x.equal(BIRCH, 0, 1), true);
    due("the greatest int and half less", x.equal(BIRCH, 0, 2), false);
  }

  // "'z' pops, and goes to the place with this number if it was the number 0 or a nothing".
  private static void zeroOrNothing() {
    String[] ash = {"n0", "n0 n-1 *", "l3", "g7", "n1", "n-1", "h1", "n0 n0 /", "n1 n0 /", "o"};
    String[] birch = {"n0", "h0", "h0 n-1 *", "l3", "n1", "n-1", "h1", "h-1", "h0 n0 /", "o"};
    String[] cedar = {"n0", "l3", "l0 l0 * n4 *", "n1", "n-1", "l0 l0 *", "k0", "o"};
    goesByZ(ASH, ash, 4);
    goesByZ(BIRCH, birch, 4);
    goesByZ(CEDAR, cedar, 3);
  }

  private static void goesByZ(int language, String[] values, int going) {
    for (int i = 0; i < values.length; i++) {
      PolyglotPier x = new PolyglotPier();
      x.pass(BIRCH, 7, ASH, 7);
      int size = values[i].split(" ").length;
      int run = function(x, language, 1, values[i] + " z" + (size + 4) + " j" + (size + 2) + " n1 r n2 r");
      due("z of " + values[i] + " in " + language, told(x, run, LEAST, 0), "r " + number(language, i < going ? 2 : 1));
    }
  }

  // "there is no such .. place, where the one behind the last code is a place".
  private static void places() {
    for (int language = ASH; language <= CEDAR; language++) {
      String end = "r " + nothing(language);
      due("j to the first place", come(language, "l0 z5 n0 s0 j0", 1, 0), end);
      due("j to the last code", come(language, "j2 n1 r"), fault(language, 3));
      due("j behind the last code", come(language, "j3 n1 r"), end);
      due("j to one more", come(language, "j4 n1 r"), fault(language, 8));
      due("j to -1", come(language, "j-1 n1 r"), fault(language, 8));
      due("z to the first place", come(language, "l0 n1 = n1 s0 z0 n5 r", 0, 0), "r " + number(language, 5));
      due("z behind the last code", come(language, "n0 z4 n1 r"), end);
      due("z to one more", come(language, "n0 z5 n1 r"), fault(language, 8));
      due("z to -1", come(language, "n0 z-1 n1 r"), fault(language, 8));
      due("z to one more, though it would not go there", come(language, "n1 z5 n1 r"), fault(language, 8));
      due("j behind 20 codes", come(language, "j20 " + times(19, "t")), end);
      due("j to the 20th code", come(language, "j19 " + times(18, "t") + "r"), fault(language, 3));
      due("j to 21", come(language, "j21 " + times(19, "t")), fault(language, 8));
      due("j alone behind itself", come(language, "j1"), end);
    }
    due("k behind the last code", come(CEDAR, "k2 r"), "r k");
    due("k to one more", come(CEDAR, "k3 r"), "x j 8");
    due("k to the first place", come(CEDAR, "k0 r"), "r k");
    due("k to -1", come(CEDAR, "k-1 r"), "x j 8");
    due("k behind 20 codes", come(CEDAR, "k20 r " + times(18, "t")), "r k");
    due("k to 21", come(CEDAR, "k21 r " + times(18, "t")), "x j 8");
    due("an escape behind the last code", come(CEDAR, "k4 n1 e t"), "r e");
  }

  // ---- things in runs

  // "'f' .. the field with this number", "'q' .. puts the value into the field": the fields 0 to 2.
  private static void fields() {
    for (int language = ASH; language <= CEDAR; language++) {
      for (int field = 0; field < 3; field++) {
        due("a field at first", come(language, "o f" + field + " r"), "r " + nothing(language));
        due("a field", come(language, "o s2 l2 n9 q" + field + " l2 f" + field + " r"), "r " + number(language, 9));
        due("another field", come(language, "o s2 l2 n9 q" + field + " l2 f" + (field + 1) % 3 + " r"),
            "r " + nothing(language));
        due("another field", come(language, "o s2 l2 n9 q" + field + " l2 f" + (field + 2) % 3 + " r"),
            "r " + nothing(language));
      }
      for (int no : new int[] {-1, 3, 4, -9999, 9999}) {
        due("f of no field", come(language, "o f" + no + " r"), fault(language, 8));
        due("q of no field", come(language, "o n1 q" + no + " r"), fault(language, 8));
      }
      due("'q' pushes nothing", come(language, "n7 o n1 q0 r"), "r " + number(language, 7));
      due("'f' pops the reference", come(language, "n7 o f0 s0 r"), "r " + number(language, 7));
    }
  }

  // ---- calls

  // "'c' calls the function with this number".
  private static void calledFunctions() {
    for (int language = ASH; language <= CEDAR; language++) {
      PolyglotPier x = new PolyglotPier();
      int first = function(x, language, 0, "n5 r");
      for (int i = 1; i < 8; i++) {
        x.addFunction(language, 0);
      }
      int last = function(x, language, 1, "l0 z4 c0 r c8 r");
      fill(x, 1, "c8 r");
      fill(x, 2, "c9 r");
      fill(x, 3, "c-1 r");
      fill(x, 4, "n1 c8 r");
      due("the first function", told(x, last, 1, 0), "r " + number(language, 5));
      due("the last function", told(x, 4, 0, 0), "r " + number(language, 5));
      due("one that takes more than there is", told(x, 1, 0, 0), fault(language, 3));
      due("no function 9", told(x, 2, 0, 0), fault(language, 8));
      due("no function -1", told(x, 3, 0, 0), fault(language, 8));
      due("the first one itself", told(x, first), "r " + number(language, 5));
      PolyglotPier y = new PolyglotPier();
      function(y, language, 0, "c1 r");
      due("no function 1 yet", told(y, 0), fault(language, 8));
      function(y, language, 0, "n6 r");
      due("there is one now", told(y, 0), "r " + number(language, 6));
    }
  }

  // "with as many arguments as it has parameters, popped, the last one first".
  private static void argumentsOfACall() {
    for (int language = ASH; language <= CEDAR; language++) {
      for (int of = ASH; of <= CEDAR; of++) {
        PolyglotPier x = new PolyglotPier();
        int minus = function(x, of, 2, "l0 l1 - r");
        due("the order", told(x, function(x, language, 0, "n9 n4 c" + minus + " r")), "r " + number(language, 5));
        due("one too few", told(x, function(x, language, 0, "n9 c" + minus + " r")), fault(language, 3));
        due("none of two", told(x, function(x, language, 0, "c" + minus + " r")), fault(language, 3));
        int one = function(x, of, 1, "l0 r");
        due("none of one", told(x, function(x, language, 0, "c" + one + " r")), fault(language, 3));
        int none = function(x, of, 0, "n3 r");
        due("none of none", told(x, function(x, language, 0, "c" + none + " r")), "r " + number(language, 3));
      }
    }
  }

  // "A call has .. a stack": it is its own, empty at first, and nothing of it is left when the call ends.
  private static void stackOfACall() {
    for (int language = ASH; language <= CEDAR; language++) {
      PolyglotPier x = new PolyglotPier();
      int pops = function(x, language, 0, "s0 n1 r");
      due("it has none of its caller's", told(x, function(x, language, 0, "n1 n2 c" + pops)), fault(language, 3));
      due("its trace", trace(x), "0 102");
      int takes = function(x, language, 1, "r");
      due("its argument is none of it", told(x, function(x, language, 0, "n1 n2 c" + takes)), fault(language, 3));
      int leaves = function(x, language, 0, "n5 n6 n7 n8 r");
      due("only what it returns is left", told(x, function(x, language, 0, "n1 c" + leaves + " + r")),
          "r " + number(language, 9));
      int falls = function(x, language, 0, "n5 n6 n7 n8");
      due("only the nothing is left", told(x, function(x, language, 0, "n1 c" + falls + " s0 r")),
          "r " + number(language, 1));
      due("and no more", told(x, function(x, language, 0, "c" + falls + " s0 r")), fault(language, 3));
    }
  }

  // "Behind its last code, a call returns the nothing of the language", which crosses.
  private static void behindTheLastCode() {
    for (int language = ASH; language <= CEDAR; language++) {
      due("without codes", come(language, ""), "r " + nothing(language));
      due("with a value on the stack", come(language, "n5"), "r " + nothing(language));
      for (int of = ASH; of <= CEDAR; of++) {
        PolyglotPier x = new PolyglotPier();
        int none = function(x, of, 0, "");
        char wanted = of == language ? nothing(of) : language == CEDAR ? 'e' : 'n';
        due("of a call", told(x, function(x, language, 0, "c" + none + " r")), "r " + wanted);
        due("its crossings", x.crossings(), of == language ? 0L : 1L);
      }
    }
  }

  // ---- escapes

  // "all calls above the one that pushed it are left, its stack becomes empty, the value is pushed, and it goes on at
  // the place of the escape".
  private static void escapesGoOn() {
    due("the value", come(CEDAR, "k4 n5 e n9 r"), "r j 5");
    due("its stack becomes empty", come(CEDAR, "n1 n2 k5 n5 e s0 r"), "x j 3");
    due("only the value is there", come(CEDAR, "n1 n2 k5 n5 e r"), "r j 5");
    due("a nothing as the value", come(CEDAR, "k4 l3 e n9 r"), "r e");
    due("an escape as the value", come(CEDAR, "k4 k0 e n9 r"), "r k");
    due("to the first place", come(CEDAR, "l0 z6 k0 n0 s0 n9 e n9 r", 1, 0), "x j 3");
    due("locals stay", come(CEDAR, "n7 s2 k5 n5 e s0 l2 r"), "r j 7");
    for (int above = 1; above <= 11; above++) {
      PolyglotPier x = new PolyglotPier();
      // Function 0 goes down so far, and then escapes; function 1 has the escape that it takes.
      function(x, CEDAR, 2, "l0 z8 l0 n1 - l1 c0 r l1 n6 e");
      int outer = function(x, CEDAR, 1, "n3 l0 k6 c0 n4 r r");
      due("calls above: " + above, told(x, outer, above - 1, 0), "r j 6");
    }
    PolyglotPier y = new PolyglotPier();
    function(y, CEDAR, 2, "l0 z8 l0 n1 - l1 c0 r l1 n6 e");
    int outer = function(y, CEDAR, 1, "n3 l0 k6 c0 n4 r r");
    due("calls above: 12 are none", told(y, outer, 11, 0), "x j 7");
  }

  // "it is the fault 6 if this call is left already".
  private static void escapesOfCallsThatAreLeft() {
    PolyglotPier x = new PolyglotPier();
    int keeps = function(x, CEDAR, 0, "k1 p0");
    int uses = function(x, CEDAR, 0, "g0 n1 e");
    due("it is there", told(x, function(x, CEDAR, 0, "k3 p0 c" + uses + " r")), "r j 1");
    due("it returned", told(x, function(x, CEDAR, 0, "c" + keeps + " c" + uses)), "x j 6");
    due("its trace", trace(x), "102 301");
    due("it was of the run before", told(x, uses), "x j 6");
    int throwing = function(x, CEDAR, 0, "k1 p0 n5 t");
    int takes = function(x, CEDAR, 0, "c" + throwing + " n1 c" + uses);
    x.guard(takes, 0, 0, 2, true);
    due("a throw left it", told(x, takes), "x j 6");
    int escapes = function(x, CEDAR, 1, "k0 p0 l0 n5 e");
    int over = function(x, CEDAR, 0, "k2 c" + escapes + " c" + uses);
    due("an escape left it", told(x, over), "x j 6");
    PolyglotPier y = new PolyglotPier();
    int again = function(y, CEDAR, 1, "l0 z5 k4 p0 j8 g0 n1 e");
    due("the escape of a call that ran before at this depth", told(y, function(y, CEDAR, 0,
        "n1 c" + again + " n0 c" + again)), "x j 6");
    due("a call itself", told(y, function(y, CEDAR, 0, "k3 p1 j4 r g1 n8 e")), "r j 8");
  }

  // ".. or a call of another language is above it".
  private static void escapesUnderAnotherLanguage() {
    for (int of = ASH; of <= CEDAR; of++) {
      PolyglotPier x = new PolyglotPier();
      int uses = function(x, CEDAR, 0, "g0 n1 e");
      int between = function(x, of, 0, "c" + uses + " r");
      int outer = function(x, CEDAR, 0, "k3 p0 c" + between + " r");
      due("a call of " + of + " above it", told(x, outer), of == CEDAR ? "r j 1" : "x j 6");
      int home = function(x, CEDAR, 0, "k3 p0 c" + uses + " r");
      int below = function(x, of, 0, "c" + home + " r");
      due("a call of " + of + " below it", told(x, below), "r " + number(of, 1));
      due("a call of " + of + " below it and above one of Cedar",
          told(x, function(x, CEDAR, 0, "c" + below + " r")), "r j 1");
      PolyglotPier y = new PolyglotPier();
      int ended = function(y, of, 0, "n1 r");
      due("a call of " + of + " that ended", told(y, function(y, CEDAR, 0, "k4 c" + ended + " e n7 r")), "r j 1");
    }
  }

  // "'k', in Cedar alone", "'e', in Cedar alone", "'h' .., in Ash and Birch".
  private static void opsOfALanguage() {
    due("h in Ash", come(ASH, "h1 r"), "r d 0.5");
    due("h in Birch", come(BIRCH, "h1 r"), "r d 0.5");
    due("h in Cedar", come(CEDAR, "h1 r"), "x j 8");
    due("k in Ash", come(ASH, "k0 r"), "x d 8.0");
    due("k in Birch", come(BIRCH, "k0 r"), "x i 8");
    due("k in Cedar", come(CEDAR, "k0 r"), "r k");
    due("e in Ash", come(ASH, "n1 n1 e r"), "x d 8.0");
    due("e in Birch", come(BIRCH, "n1 n1 e r"), "x i 8");
    due("e in Cedar", come(CEDAR, "k4 n1 e t r"), "r j 1");
  }

  // ---- runs

  /** Function 1 does 381 codes, and those of the last call. */
  private static PolyglotPier doing381And(int language, String lastCall) {
    PolyglotPier x = new PolyglotPier();
    function(x, language, 0, idle(0, 19));
    function(x, language, 0, times(19, "c0") + "c2");
    function(x, language, 0, lastCall);
    x.addFunction(language, 0);
    return x;
  }

  private static String do381And(int language, String lastCall) {
    return told(doing381And(language, lastCall), 1);
  }

  // "A run has at most 400 codes; if one more would be done, it ends by the limit."
  private static void fourHundredCodes() {
    for (int language = ASH; language <= CEDAR; language++) {
      String end = "r " + nothing(language);
      due("399 codes", do381And(language, idle(0, 18)), end);
      due("400 codes", do381And(language, idle(0, 19)), end);
      due("401 codes", do381And(language, idle(0, 20)), "l");
      due("the 400th returns", do381And(language, idle(0, 17) + "n1 r"), end);
      due("the 401st would return", do381And(language, idle(0, 18) + "n1 r"), "l");
      due("the 400th throws", do381And(language, idle(0, 17) + "n1 t"), fault(language, 1));
      due("the 401st would throw", do381And(language, idle(0, 18) + "n1 t"), "l");
      due("the 400th has a fault", do381And(language, idle(0, 18) + "+"), fault(language, 3));
      due("the 401st would have a fault", do381And(language, idle(0, 19) + "+"), "l");
      due("the 400th calls what has no code", do381And(language, idle(0, 18) + "c3"), end);
      due("the 400th jumps", do381And(language, idle(0, 18) + "j19"), end);
      due("the 400th jumps to the 401st", do381And(language, idle(0, 18) + "j0"), "l");
    }
    due("the 400th escapes", do381And(CEDAR, idle(0, 16) + "k19 n1 e"), "r e");
    due("the 401st would escape", do381And(CEDAR, idle(0, 17) + "k20 n1 e"), "l");
  }

  // A call that goes on behind the 400th code: the outmost one, and one that takes a throw.
  private static void behindTheFourHundredth() {
    for (int language = ASH; language <= CEDAR; language++) {
      String end = "r " + nothing(language);
      PolyglotPier x = doing381And(language, idle(0, 17));
      due("the 400th is of the outmost call", told(x, function(x, language, 0, "c1 r")), end);
      PolyglotPier y = doing381And(language, idle(0, 18));
      due("the 401st would be of the outmost call", told(y, function(y, language, 0, "c1 r")), "l");
      due("none is left for it", told(y, function(y, language, 0, "c1")), end);
      PolyglotPier taken = doing381And(language, idle(0, 18) + "+");
      taken.guard(2, 18, 18, 19, true);
      due("the throw of the 400th is taken behind the last code", told(taken, 1), end);
      PolyglotPier goesOn = doing381And(language, idle(0, 18) + "+ r");
      goesOn.guard(2, 18, 18, 19, true);
      due("the throw of the 400th is taken, and a 401st would be done", told(goesOn, 1), "l");
      PolyglotPier last = doing381And(language, idle(0, 17) + "+ r");
      last.guard(2, 17, 17, 18, true);
      due("the throw of the 399th is taken, and the 400th is done", told(last, 1), end);
    }
  }

  // "A run has at most 400 codes": each one anew.
  private static void eachRunAnew() {
    PolyglotPier x = new PolyglotPier();
    function(x, BIRCH, 0, idle(0, 19));
    int most = function(x, BIRCH, 0, times(20, "c0"));
    for (int i = 0; i < 4; i++) {
      due("400 codes again", told(x, most), "r n");
    }
    int more = function(x, BIRCH, 0, "c" + most);
    due("401 codes", told(x, more), "l");
    due("400 codes behind them", told(x, most), "r n");
  }

  // "What it has changed stays."
  private static void limitedRunsKeep() {
    PolyglotPier x = new PolyglotPier();
    x.make(CEDAR, 1);
    x.pass(CEDAR, 1, BIRCH, 1);
    int writes = function(x, BIRCH, 0, "n5 p0 g1 n6 q2 o p3 o g1 f2 p4 j11 j11");
    due("the limit", told(x, writes), "l");
    due("a global", x.numberOf(BIRCH, 0), 5.0);
    due("a field", x.get(CEDAR, 1, 2, 2), 0);
    due("a field", x.numberOf(CEDAR, 2), 6.0);
    due("a thing in a global", x.numberOf(BIRCH, 3), 1.0);
    due("made", x.made(), 3);
    due("crossings", x.crossings(), 2L);
    due("a thing in none is there", x.isThere(2), true);
    due("and can be freed", x.collect(), 1);
    int last = function(x, BIRCH, 1, "l0 n1 - p5 g5 n0 + s0 j0");
    due("the limit", told(x, last, 1000, 0), "l");
    // 9 codes each time: 44 times are 396 codes, and the last one of 4 more sets it once more.
    due("just as many as 400 codes", x.numberOf(BIRCH, 5), 955.0);
    PolyglotPier y = new PolyglotPier();
    due("the limit", told(y, function(y, ASH, 0, "o s0 o p0 l0 o q0 j7 j7")), "l");
    due("things of Ash with a count of 0 are freed, and those they refer to", y.freed(), 2);
    due("the one in a global is not", y.isThere(1), true);
  }

  public static void main(String[] args) {
    nineFunctions();
    parameters();
    twentyCodes();
    argumentsOfARun();
    locals();
    otherLocals();
    globals();
    numbersAndHalves();
    highStack();
    intsOverflow();
    intsAndDoubles();
    doublesOfAllKinds();
    greatestDoubles();
    longsWrap();
    divisionCuts();
    divisionByZero();
    lowerAndUpper();
    less();
    equalValues();
    equalEscapes();
    equalWide();
    zeroOrNothing();
    places();
    fields();
    calledFunctions();
    argumentsOfACall();
    stackOfACall();
    behindTheLastCode();
    escapesGoOn();
    escapesOfCallsThatAreLeft();
    escapesUnderAnotherLanguage();
    opsOfALanguage();
    fourHundredCodes();
    behindTheFourHundredth();
    eachRunAnew();
    limitedRunsKeep();
    end();
  }
}
