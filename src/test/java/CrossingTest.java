/**
 * "Crossing": for each sentence the last value that crosses and the first one that does not, on both sides, over
 * each of the ways by which a value crosses: pass, put, get, an argument, a result, a field that is read or written
 * in a run, and a throw.
 */
public final class CrossingTest extends Checks {
  private static final String[] WAYS = {"pass", "put", "get", "argument", "result", "field read", "field written", "throw"};
  private static final int PASS = 0;
  private static final int PUT = 1;
  private static final int GET = 2;
  private static final int ARGUMENT = 3;
  private static final int RESULT = 4;
  private static final int READ = 5;
  private static final int WRITTEN = 6;
  private static final int THROW = 7;

  // In each language global 3 is the greatest int, and global 4 the least one; local 2 is used.
  private static final String ASH_2_63 = "g4 g4 * n2 *";
  private static final String ASH_2_53 = "g4 n-2048 * n2048 *";
  private static final String BIRCH_2_63 = "g4 h2 * g4 * h4 *";
  private static final String CEDAR_2_53 = "g4 n-2048 * n2048 *";
  private static final String CEDAR_HALF_OF_2_64 = "g4 g4 * s2 ";

  private static PolyglotPier scene() {
    PolyglotPier x = new PolyglotPier();
    for (int language = ASH; language <= CEDAR; language++) {
      x.set(language, 3, MOST);
      x.set(language, 4, LEAST);
    }
    return x;
  }

  /** What a value of these codes is in another language: as in "i 5", "e" or "t"; or "fault 4". */
  private static void crosses(int from, String codes, int to, String wanted) {
    for (int way = 0; way < WAYS.length; way++) {
      String what = WAYS[way] + " of " + codes + " from " + from + " to " + to;
      PolyglotPier x = scene();
      int fault = wanted.startsWith("fault ") ? wanted.charAt(6) - '0' : 0;
      if (way <= GET) {
        crossesInCall(x, what, way, from, codes, to, fault);
      } else {
        crossesInRun(x, what, way, from, codes, to, fault);
      }
      if (fault != 0 && way == THROW) {
        due(what + ", in its place", globalOne(x, to), number(to, fault));
      } else if (fault != 0) {
        due(what + ", nothing is there", globalOne(x, to), "" + nothing(to));
      } else {
        due(what, globalOne(x, to), wanted);
      }
    }
  }

  /** As told() has it, but for a reference, which has to be to the thing that was made last. */
  private static String globalOne(PolyglotPier x, int language) {
    String told = told(x, function(x, language, 0, "g1 r")).substring(2);
    return told.equals("t " + (x.made() - 1)) ? "t" : told;
  }

  private static void crossesInCall(PolyglotPier x, String what, int way, int from, String codes, int to, int fault) {
    if (way == PUT) {
      x.make(to, 2);
      x.pass(to, 2, from, 2);
    } else if (way == GET) {
      x.make(from, 2);
      x.pass(from, 2, to, 2);
    }
    x.run(function(x, from, 0, codes + " p0"), 0, 0);
    if (way == PASS) {
      due(what + ", its fault", x.pass(from, 0, to, 1), fault);
    } else if (way == PUT) {
      due(what + ", its fault", x.put(from, 2, 1, 0), fault);
      due(what + ", at home", x.get(to, 2, 1, 1), 0);
    } else {
      due(what + ", at home", x.put(from, 2, 1, 0), 0);
      due(what + ", its fault", x.get(to, 2, 1, 1), fault);
    }
    due(what + ", crossings", x.crossings(), 0L);
  }

  private static void crossesInRun(PolyglotPier x, String what, int way, int from, String codes, int to, int fault) {
    int thingOf = way == READ ? from : to;
    if (way == READ || way == WRITTEN) {
      x.make(thingOf, 2);
      x.pass(thingOf, 2, thingOf == from ? to : from, 2);
    }
    int run = way == ARGUMENT ? argument(x, from, codes, to) : way == RESULT ? result(x, from, codes, to)
        : way == READ ? read(x, from, codes, to) : way == WRITTEN ? written(x, from, codes) : thrown(x, from, codes, to);
    int faultOf = way == ARGUMENT || way == WRITTEN ? from : to;
    boolean isTaken = fault == 0 || way == THROW;
    due(what + ", its run", told(x, run), isTaken ? "r " + nothing(faultOf) : fault(faultOf, fault));
    // What a function returns that took the argument crosses too.
    due(what + ", crossings", x.crossings(), way == ARGUMENT && fault == 0 ? 2L : 1L);
    if (way == WRITTEN) {
      due(what + ", at home", x.get(to, 2, 1, 1), 0);
    }
  }

  private static int argument(PolyglotPier x, int from, String codes, int to) {
    int called = function(x, to, 1, "l0 p1");
    return function(x, from, 0, codes + " c" + called);
  }

  private static int result(PolyglotPier x, int from, String codes, int to) {
    int called = function(x, from, 0, codes + " r");
    return function(x, to, 0, "c" + called + " p1");
  }

  private static int read(PolyglotPier x, int from, String codes, int to) {
    x.run(function(x, from, 0, "g2 " + codes + " q1"), 0, 0);
    return function(x, to, 0, "g2 f1 p1");
  }

  private static int written(PolyglotPier x, int from, String codes) {
    return function(x, from, 0, "g2 " + codes + " q1");
  }

  private static int thrown(PolyglotPier x, int from, String codes, int to) {
    int called = function(x, from, 0, codes + " t");
    int run = function(x, to, 0, "c" + called + " j0 p1");
    x.guard(run, 0, 0, 2, true);
    return run;
  }

  /** A value that no other language can have, or that both have as this. */
  private static void crossesFrom(int from, String codes, String... wanted) {
    int next = 0;
    for (int to = ASH; to <= CEDAR; to++) {
      if (to != from) {
        crosses(from, codes, to, wanted[next]);
        next++;
      }
    }
  }

  // "a double that is a whole number becomes an int .. if there is one of this value"; a double that is not so
  // "crosses between Ash and Birch as it is".
  private static void doublesToInts() {
    crosses(ASH, "n0", BIRCH, "i 0");
    crosses(ASH, "n1", BIRCH, "i 1");
    crosses(ASH, "n-1", BIRCH, "i -1");
    crosses(ASH, "g3", BIRCH, "i 2147483647");
    crosses(ASH, "g3 n1 +", BIRCH, "d 2.147483648E9");
    crosses(ASH, "g3 h1 +", BIRCH, "d 2.1474836475E9");
    crosses(ASH, "g3 h1 -", BIRCH, "d 2.1474836465E9");
    crosses(ASH, "g4", BIRCH, "i -2147483648");
    crosses(ASH, "g4 n1 -", BIRCH, "d -2.147483649E9");
    crosses(ASH, "g4 h1 -", BIRCH, "d -2.1474836485E9");
    crosses(ASH, ASH_2_53, BIRCH, "d 9.007199254740992E15");
    crosses(ASH, ASH_2_63, BIRCH, "d " + 9223372036854775808.0);
    crosses(ASH, ASH_2_63 + " s2 l2 l2 * l2 * l2 *", BIRCH, "d " + Math.pow(2, 252));
  }

  // "a double that is a whole number becomes .. a long, if there is one of this value".
  private static void doublesToLongs() {
    crosses(ASH, "n0", CEDAR, "j 0");
    crosses(ASH, "n-1", CEDAR, "j -1");
    crosses(ASH, "g3 n1 +", CEDAR, "j 2147483648");
    crosses(ASH, ASH_2_53, CEDAR, "j 9007199254740992");
    crosses(ASH, ASH_2_53 + " n2 +", CEDAR, "j 9007199254740994");
    crosses(ASH, ASH_2_63 + " n1024 -", CEDAR, "j 9223372036854774784");
    crosses(ASH, ASH_2_63, CEDAR, "fault 4");
    crosses(ASH, ASH_2_63 + " n2048 +", CEDAR, "fault 4");
    crosses(ASH, ASH_2_63 + " n-1 *", CEDAR, "j -9223372036854775808");
    crosses(ASH, ASH_2_63 + " n-1 * n2048 -", CEDAR, "fault 4");
    crosses(ASH, ASH_2_63 + " n-1 * n1024 +", CEDAR, "j -9223372036854774784");
    crosses(ASH, ASH_2_63 + " s2 l2 l2 *", CEDAR, "fault 4");
    crosses(BIRCH, "h0", CEDAR, "j 0");
    crosses(BIRCH, "h-6", CEDAR, "j -3");
    crosses(BIRCH, "g3 h2 +", CEDAR, "j 2147483648");
    crosses(BIRCH, "g4 h2 -", CEDAR, "j -2147483649");
    crosses(BIRCH, BIRCH_2_63 + " n1024 -", CEDAR, "j 9223372036854774784");
    crosses(BIRCH, BIRCH_2_63, CEDAR, "fault 4");
    crosses(BIRCH, BIRCH_2_63 + " n-1 *", CEDAR, "j -9223372036854775808");
    crosses(BIRCH, BIRCH_2_63 + " n-1 * n2048 -", CEDAR, "fault 4");
  }

  // ".. but not the zero below zero".
  private static void zeroBelowZero() {
    crosses(ASH, "n0 n-1 *", BIRCH, "d -0.0");
    crosses(ASH, "n0 n-1 *", CEDAR, "fault 4");
    crosses(BIRCH, "h0 n-1 *", ASH, "d -0.0");
    crosses(BIRCH, "h0 n-1 *", CEDAR, "fault 4");
    crosses(ASH, "n-1 n1 n0 / /", CEDAR, "fault 4");
    crosses(ASH, "n0 n-1 * n0 +", BIRCH, "i 0");
    crosses(ASH, "n0 n-1 * n0 +", CEDAR, "j 0");
    crosses(BIRCH, "n0 n-1 *", ASH, "d 0.0");
  }

  // "a whole number becomes a double if there is one of this value", and
  // "a whole number of which there is no double cannot cross to Ash".
  private static void wholesToDoubles() {
    crosses(BIRCH, "n0", ASH, "d 0.0");
    crosses(BIRCH, "g3", ASH, "d 2.147483647E9");
    crosses(BIRCH, "g4", ASH, "d -2.147483648E9");
    crosses(CEDAR, "n0", ASH, "d 0.0");
    crosses(CEDAR, "n-1", ASH, "d -1.0");
    crosses(CEDAR, "g3 n1 +", ASH, "d 2.147483648E9");
    crosses(CEDAR, "g4 n1 -", ASH, "d -2.147483649E9");
    crosses(CEDAR, CEDAR_2_53 + " n1 -", ASH, "d 9.007199254740991E15");
    crosses(CEDAR, CEDAR_2_53, ASH, "d 9.007199254740992E15");
    crosses(CEDAR, CEDAR_2_53 + " n1 +", ASH, "fault 4");
    crosses(CEDAR, CEDAR_2_53 + " n2 +", ASH, "d 9.007199254740994E15");
    crosses(CEDAR, CEDAR_2_53 + " n-1 *", ASH, "d -9.007199254740992E15");
    crosses(CEDAR, CEDAR_2_53 + " n-1 * n1 -", ASH, "fault 4");
    crosses(CEDAR, CEDAR_2_53 + " n-1 * n2 -", ASH, "d -9.007199254740994E15");
    crosses(CEDAR, CEDAR_HALF_OF_2_64 + "l2 n1024 - l2 +", ASH, "d " + 9223372036854774784.0);
    crosses(CEDAR, CEDAR_HALF_OF_2_64 + "l2 n1023 - l2 +", ASH, "fault 4");
    crosses(CEDAR, CEDAR_HALF_OF_2_64 + "l2 n512 - l2 +", ASH, "fault 4");
    crosses(CEDAR, CEDAR_HALF_OF_2_64 + "l2 n1 - l2 +", ASH, "fault 4");
    crosses(CEDAR, CEDAR_HALF_OF_2_64 + "l2 l2 +", ASH, "d " + -9223372036854775808.0);
    crosses(CEDAR, CEDAR_HALF_OF_2_64 + "l2 l2 + n1 +", ASH, "fault 4");
    crosses(CEDAR, CEDAR_HALF_OF_2_64 + "l2 l2 + n1024 +", ASH, "d " + -9223372036854774784.0);
  }

  // "a double that is not so crosses between Ash and Birch as it is, and it cannot cross to Cedar".
  private static void otherDoubles() {
    crossesFrom(ASH, "h1", "d 0.5", "fault 4");
    crossesFrom(ASH, "h-1", "d -0.5", "fault 4");
    crossesFrom(ASH, "h9999", "d 4999.5", "fault 4");
    crossesFrom(ASH, "n1 g3 / g3 /", "d " + 1.0 / MOST / MOST, "fault 4");
    crossesFrom(ASH, "n1 n0 /", "d Infinity", "fault 4");
    crossesFrom(ASH, "n-1 n0 /", "d -Infinity", "fault 4");
    crossesFrom(ASH, "n0 n0 /", "d NaN", "fault 4");
    crossesFrom(BIRCH, "h1", "d 0.5", "fault 4");
    crossesFrom(BIRCH, "h-1", "d -0.5", "fault 4");
    crossesFrom(BIRCH, "n1 h0 /", "d Infinity", "fault 4");
    crossesFrom(BIRCH, "n-1 h0 /", "d -Infinity", "fault 4");
    crossesFrom(BIRCH, "h0 h0 /", "d NaN", "fault 4");
    crossesFrom(BIRCH, "h4", "d 2.0", "j 2");
    crossesFrom(BIRCH, "g3 h2 +", "d 2.147483648E9", "j 2147483648");
  }

  // "a long that is no int cannot cross to Birch".
  private static void longsToInts() {
    crosses(CEDAR, "n0", BIRCH, "i 0");
    crosses(CEDAR, "g3", BIRCH, "i 2147483647");
    crosses(CEDAR, "g3 n1 +", BIRCH, "fault 4");
    crosses(CEDAR, "g4", BIRCH, "i -2147483648");
    crosses(CEDAR, "g4 n1 -", BIRCH, "fault 4");
    crosses(CEDAR, "g4 n-2 *", BIRCH, "fault 4");
    crosses(CEDAR, CEDAR_HALF_OF_2_64 + "l2 l2 +", BIRCH, "fault 4");
    crosses(CEDAR, CEDAR_HALF_OF_2_64 + "l2 n1 - l2 +", BIRCH, "fault 4");
  }

  // An int becomes a long, always.
  private static void intsToLongs() {
    crosses(BIRCH, "n0", CEDAR, "j 0");
    crosses(BIRCH, "g3", CEDAR, "j 2147483647");
    crosses(BIRCH, "g4", CEDAR, "j -2147483648");
  }

  // "Each nothing becomes 'n' in Ash and in Birch, and 'e' in Cedar".
  private static void nothings() {
    crossesFrom(ASH, "l3", "n", "e");
    crossesFrom(BIRCH, "l3", "n", "e");
    crossesFrom(CEDAR, "l3", "n", "n");
    PolyglotPier x = scene();
    due("an 'n' of Ash", x.pass(BIRCH, 0, ASH, 0), 0);
    due("an 'n' of Ash", x.kindOf(ASH, 0), 'n');
    due("an 'n' of Ash to Birch", x.pass(ASH, 0, BIRCH, 1), 0);
    due("an 'n' of Ash to Birch", x.kindOf(BIRCH, 1), 'n');
    due("an 'n' of Ash to Cedar", x.pass(ASH, 0, CEDAR, 1), 0);
    due("an 'n' of Ash to Cedar", x.kindOf(CEDAR, 1), 'e');
  }

  /** Globals 0 and 1 are values that would not stay so abroad. */
  private static PolyglotPier atHome() {
    PolyglotPier x = scene();
    x.run(function(x, ASH, 0, "n0 n-1 * p0 h1 p1"), 0, 0);
    x.run(function(x, BIRCH, 0, "h4 p0 h0 n-1 * p1"), 0, 0);
    x.run(function(x, CEDAR, 0, "k0 p0 g3 n1 + p1"), 0, 0);
    return x;
  }

  // "A value crosses from a language to another one so": at home it stays what it is.
  private static void staysAtHome() {
    String[] wanted = {"d -0.0", "d 0.5", "d 2.0", "d -0.0", "k", "j 2147483648"};
    for (int i = 0; i < 6; i++) {
      int language = i / 2;
      PolyglotPier y = atHome();
      due("at home", y.pass(language, i % 2, language, 5), 0);
      due("at home", told(y, function(y, language, 0, "g5 r")), "r " + wanted[i]);
    }
    PolyglotPier x = atHome();
    due("u at home", x.pass(ASH, 5, ASH, 6), 0);
    due("u at home", x.kindOf(ASH, 6), 'u');
    PolyglotPier y = scene();
    int same = function(y, BIRCH, 1, "l0 r");
    due("a double of Birch in calls at home", told(y, function(y, BIRCH, 0, "h4 c" + same + " r")), "r d 2.0");
    int other = function(y, ASH, 1, "l0 r");
    due("a double of Birch abroad and back", told(y, function(y, BIRCH, 0, "h4 c" + other + " r")), "r i 2");
    due("an int of Birch abroad and back", told(y, function(y, BIRCH, 0, "n4 c" + other + " r")), "r i 4");
    due("the crossings", y.crossings(), 4L);
  }

  // "A reference crosses as one to the same thing".
  private static void references() {
    for (int from = ASH; from <= CEDAR; from++) {
      crossesFrom(from, "o", "t", "t");
      for (int over = 0; over < LANGUAGES * LANGUAGES; over++) {
        PolyglotPier x = scene();
        x.make(from, 0);
        due("there", x.pass(from, 0, over / LANGUAGES, 1), 0);
        due("and over another one", x.pass(over / LANGUAGES, 1, over % LANGUAGES, 2), 0);
        due("and back", x.pass(over % LANGUAGES, 2, from, 5), 0);
        due("the same one", x.equal(from, 0, 5), true);
        due("the same one", x.numberOf(from, 5), 0.0);
      }
    }
  }

  // "An escape cannot cross, fault 5".
  private static void escapes() {
    crossesFrom(CEDAR, "k0", "fault 5", "fault 5");
    crossesFrom(CEDAR, "k1", "fault 5", "fault 5");
  }

  // "crossings .. up to the first one that could not", "those that could not included".
  private static void argumentsUpToTheFirst() {
    PolyglotPier x = scene();
    int two = function(x, BIRCH, 2, "");
    int wide = function(x, CEDAR, 0, "k0 g3 n1 + c" + two);
    due("an escape, and a wide one", told(x, wide), "x j 5");
    due("only the first one crossed", x.crossings(), 1L);
    int escape = function(x, CEDAR, 0, "g3 n1 + k0 c" + two);
    due("a wide one, and an escape", told(x, escape), "x j 4");
    due("only the first one crossed", x.crossings(), 2L);
    int second = function(x, CEDAR, 0, "n1 k0 c" + two);
    due("a small one, and an escape", told(x, second), "x j 5");
    due("both crossed", x.crossings(), 4L);
    int none = function(x, CEDAR, 0, "n1 n2 c" + two);
    due("two small ones", told(x, none), "r e");
    due("both crossed, and the nothing", x.crossings(), 7L);
  }

  // "throws, once where they leave a call to one of another language"; in calls of one language none crosses.
  private static void throwsCrossOnce() {
    PolyglotPier x = scene();
    int ash = function(x, ASH, 0, "n1 t");
    int ashToo = function(x, ASH, 0, "c" + ash);
    int birch = function(x, BIRCH, 0, "c" + ashToo);
    int birchToo = function(x, BIRCH, 0, "c" + birch);
    int cedar = function(x, CEDAR, 0, "c" + birchToo);
    due("at home", told(x, ashToo), "x d 1.0");
    due("none crossed", x.crossings(), 0L);
    due("over one border", told(x, birchToo), "x i 1");
    due("once", x.crossings(), 1L);
    due("over two borders", told(x, cedar), "x j 1");
    due("twice", x.crossings(), 3L);
    x.guard(ashToo, 0, 0, 1, true);
    due("it is taken before", told(x, cedar), "r e");
    due("the nothings crossed", x.crossings(), 5L);
  }

  public static void main(String[] args) {
    doublesToInts();
    doublesToLongs();
    zeroBelowZero();
    wholesToDoubles();
    otherDoubles();
    longsToInts();
    intsToLongs();
    nothings();
    staysAtHome();
    references();
    escapes();
    argumentsUpToTheFirst();
    throwsCrossOnce();
    end();
  }
}
