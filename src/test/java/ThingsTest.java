/**
 * "Things", "Collecting" and the promises about globals, things and figures: for each sentence of the document that
 * names a boundary case the last case on the one side and the first one on the other.
 */
public final class ThingsTest extends Checks {
  // ---- a new object

  // "Creates a machine without functions and things": what is asked of none, and the first ones.
  private static void newObject() {
    PolyglotPier x = new PolyglotPier();
    for (int i = 0; i < 24; i++) {
      due("all globals of a language are equal", x.equal(i / 8, i % 8, 7 - i % 8), true);
    }
    due("collect", x.collect(), 0);
    due("collectRings", x.collectRings(), 0);
    dueThrow("a thing", NO_INDEX, () -> x.isThere(0));
    due("the first function", x.addFunction(ASH, 0), 0);
    due("the first thing", x.make(ASH, 0), 0);
    PolyglotPier y = new PolyglotPier();
    due("another object has none of it", y.made(), 0);
    due("another object has none of it", y.addFunction(ASH, 0), 0);
  }

  // ---- globals

  // set: "the number, as one of the language"; the least and the greatest int are.
  private static void setNumbers() {
    for (int number : new int[] {LEAST, LEAST + 1, -1, 0, 1, MOST - 1, MOST}) {
      for (int language = ASH; language <= CEDAR; language++) {
        PolyglotPier x = new PolyglotPier();
        due("set", x.set(language, 3, number), 0);
        due("kindOf", x.kindOf(language, 3), "dij".charAt(language));
        due("numberOf", x.numberOf(language, 3), (double) number);
        String told = told(x, function(x, language, 0, "g3 r"));
        due("g", told, language == ASH ? "r d " + (double) number : "r " + number(language, number));
      }
    }
  }

  // set: "Returns the number of things that are freed by this": none, one, and all 60.
  private static void setFrees() {
    PolyglotPier x = new PolyglotPier();
    x.make(ASH, 0);
    x.pass(ASH, 0, ASH, 1);
    due("one of two references", x.set(ASH, 0, 1), 0);
    due("the last one", x.set(ASH, 1, 1), 1);
    due("over a number", x.set(ASH, 1, 1), 0);
    x.make(BIRCH, 0);
    due("things of Birch are not counted", x.set(BIRCH, 0, 1), 0);
    due("it is there", x.isThere(1), true);
    due("all 60, the last one first", sixtyInARow(true).set(ASH, 0, 1), 60);
    due("all 60, the first one first", sixtyInARow(false).set(ASH, 0, 1), 60);
  }

  /** 60 things of Ash, each one but one held by the next one, or the one before, alone; global 0 has the outmost. */
  private static PolyglotPier sixtyInARow(boolean lastHolds) {
    PolyglotPier x = new PolyglotPier();
    x.make(ASH, 0);
    x.pass(ASH, 0, ASH, 1);
    for (int i = 1; i < 60; i++) {
      if (lastHolds) {
        x.make(ASH, 1);
        x.put(ASH, 1, i % 3, 0);
        x.pass(ASH, 1, ASH, 0);
      } else {
        x.make(ASH, 2);
        x.put(ASH, 1, i % 3, 2);
        x.pass(ASH, 2, ASH, 1);
        x.set(ASH, 2, 0);
      }
    }
    due("none is freed yet", x.set(ASH, 1, 0), 0);
    due("60 are there", x.things(ASH), 60);
    return x;
  }

  // "the same one": pass, put and get of a global, or of a field, to itself.
  private static void ontoItself() {
    for (int language = ASH; language <= CEDAR; language++) {
      PolyglotPier x = new PolyglotPier();
      x.make(language, 0);
      due("pass onto itself", x.pass(language, 0, language, 0), 0);
      due("it is there", x.isThere(0), true);
      due("count", x.count(0), language == ASH ? 1 : 0);
      due("put into its own field", x.put(language, 0, 1, 0), 0);
      due("count", x.count(0), language == ASH ? 2 : 0);
      due("get onto its own global", x.get(language, 0, 1, 0), 0);
      due("the same thing", x.numberOf(language, 0), 0.0);
      due("equal to itself", x.equal(language, 0, 0), true);
      due("a field that is a nothing onto its own global", x.get(language, 0, 0, 0), 0);
      due("a nothing", x.kindOf(language, 0), nothing(language));
      due("the thing refers to itself", x.isThere(0), true);
      due("nothing is left by collectRings", x.collectRings(), 1);
    }
  }

  // kindOf: "the kind, as resultKind() tells it".
  private static void kinds() {
    PolyglotPier x = new PolyglotPier();
    x.pass(BIRCH, 0, ASH, 0);
    x.make(ASH, 1);
    x.run(function(x, BIRCH, 0, "h2 p0 n2 p1 o p2"), 0, 0);
    x.run(function(x, CEDAR, 0, "k0 p0 n2 p1 o p2"), 0, 0);
    String kinds = "";
    for (int i = 0; i < 24; i++) {
      kinds += x.kindOf(i / 8, i % 8);
    }
    due("kinds", kinds, "ntuuuuuuditnnnnnkjteeeee");
  }

  // numberOf: "converted to double, or that of the thing".
  private static void numbers() {
    PolyglotPier x = new PolyglotPier();
    x.set(CEDAR, 0, LEAST);
    x.run(function(x, CEDAR, 0, "g0 g0 * s0 l0 l0 n1 - + p1 l0 l0 + p2 l0 l0 + n1 + p3"), 0, 0);
    due("the greatest long", x.numberOf(CEDAR, 1), 9223372036854775808.0);
    due("the least long", x.numberOf(CEDAR, 2), -9223372036854775808.0);
    due("the one above it", x.numberOf(CEDAR, 3), -9223372036854775808.0);
    x.run(function(x, ASH, 0, "n0 n-1 * p0 n1 n0 / p1 n0 n0 / p2 h1 p3"), 0, 0);
    due("the zero below zero", x.numberOf(ASH, 0), -0.0);
    due("infinite", x.numberOf(ASH, 1), Double.POSITIVE_INFINITY);
    due("no number", x.numberOf(ASH, 2), Double.NaN);
    due("half", x.numberOf(ASH, 3), 0.5);
    for (int i = 0; i < 60; i++) {
      x.make(BIRCH, 0);
      due("the number of a thing", x.numberOf(BIRCH, 0), (double) i);
    }
  }

  // ---- things

  // "numbered from 0 as they are made, and numbers are not used again"; "At most 60 things are there at once".
  private static void numbersOfThings() {
    PolyglotPier x = new PolyglotPier();
    for (int i = 0; i < 60; i++) {
      due("make", x.make(i % 2 + 1, 0), i);
    }
    dueThrow("a 61st at once", NO_STATE, () -> x.make(ASH, 0));
    due("made", x.made(), 60);
    due("collect", x.collect(), 58);
    due("numbers are not used again", x.make(ASH, 0), 60);
    due("numbers are not used again", x.make(ASH, 0), 61);
    due("made", x.made(), 62);
    due("things of Ash", x.things(ASH), 1);
    due("an earlier one is not there", x.isThere(57), false);
    due("one that is kept", x.isThere(58), true);
    due("one that is kept", x.isThere(59), true);
    PolyglotPier y = new PolyglotPier();
    for (int i = 0; i < 300; i++) {
      due("make", y.make(ASH, i % 2), i);
    }
    due("two are there", y.things(ASH), 2);
    due("the others are freed", y.freed(), 298);
    due("the first one", y.isThere(0), false);
    due("the last but two", y.isThere(297), false);
    due("the last but one", y.isThere(298), true);
    due("the last one", y.isThere(299), true);
    due("one that was in the same room", y.numberOf(ASH, 1), 299.0);
  }

  // make: "if there are 60 things, whatever could be freed": 60 again as soon as one is freed.
  private static void sixtyOfAllLanguages() {
    for (int language = ASH; language <= CEDAR; language++) {
      PolyglotPier x = sixtyInARow(true);
      int home = language;
      dueThrow("a 61st", NO_STATE, () -> x.make(home, 5));
      due("nothing is made", x.made(), 60);
      due("the global is not set", x.kindOf(home, 5), nothing(home));
      // Field 59 % 3 of the last one has the one before it; all but the last one are freed.
      x.set(ASH, 7, 0);
      due("put over the reference", x.put(ASH, 0, 59 % 3, 7), 0);
      due("59 are freed", x.freed(), 59);
      for (int i = 0; i < 59; i++) {
        x.make(CEDAR, 0);
      }
      dueThrow("a 61st again", NO_STATE, () -> x.make(home, 5));
    }
  }

  // "A thing has the fields 0 to 2, the nothing of its language at first": also in a room that was used before.
  private static void fieldsAtFirst() {
    for (int language = ASH; language <= CEDAR; language++) {
      PolyglotPier x = new PolyglotPier();
      for (int before = ASH; before <= CEDAR; before++) {
        x.make(before, 0);
        x.set(before, 1, 7);
        for (int field = 0; field < 3; field++) {
          x.put(before, 0, field, 1);
        }
        x.set(before, 0, 0);
      }
      x.collectRings();
      for (int made = 0; made < 3; made++) {
        x.make(language, 2 + made);
        for (int field = 0; field < 3; field++) {
          due("get", x.get(language, 2 + made, field, 7), 0);
          due("a field at first", x.kindOf(language, 7), nothing(language));
        }
      }
      PolyglotPier y = new PolyglotPier();
      y.make(language, 0);
      for (int other = ASH; other <= CEDAR; other++) {
        if (other != language) {
          y.pass(language, 0, other, 0);
          due("get abroad", y.get(other, 0, 2, 1), 0);
          due("the nothing, crossed", y.kindOf(other, 1), other == CEDAR ? 'e' : 'n');
        }
      }
    }
  }

  // "A thing of Ash has a count: of references to it in globals of Ash and in fields of things of Ash".
  private static void counts() {
    PolyglotPier x = new PolyglotPier();
    x.make(ASH, 0);
    for (int global = 1; global < 8; global++) {
      due("count", x.count(0), global);
      x.pass(ASH, 0, ASH, global);
    }
    due("of all globals", x.count(0), 8);
    for (int field = 0; field < 3; field++) {
      x.put(ASH, 0, field, 0);
      due("and of its own fields", x.count(0), 9 + field);
    }
    x.make(ASH, 7);
    for (int field = 0; field < 3; field++) {
      x.put(ASH, 7, field, 0);
      due("and of another one's, less one global", x.count(0), 11 + field);
    }
    due("a put of the same once more", x.put(ASH, 7, 0, 0), 0);
    due("does not count twice", x.count(0), 13);
    x.set(ASH, 7, 0);
    due("the other one is freed, and its fields count no more", x.count(0), 10);
    for (int global = 1; global < 7; global++) {
      due("set", x.set(ASH, global, 0), 0);
      due("less one", x.count(0), 10 - global);
    }
    due("the last global", x.set(ASH, 0, 0), 0);
    due("its own fields are left", x.count(0), 3);
    due("it is there", x.isThere(0), true);
  }

  // "and 1 more if there is a proxy for it": 1, as many as refer to it.
  private static void countsOfProxies() {
    PolyglotPier x = new PolyglotPier();
    x.make(ASH, 0);
    due("no proxy", x.isHeld(0), false);
    due("count", x.count(0), 1);
    for (int global = 0; global < 8; global++) {
      x.pass(ASH, 0, BIRCH, global);
      x.pass(ASH, 0, CEDAR, global);
      due("a proxy", x.isHeld(0), true);
      due("1 more", x.count(0), 2);
    }
    x.make(CEDAR, 0);
    x.put(CEDAR, 0, 0, 1);
    x.put(CEDAR, 0, 1, 1);
    due("1 more", x.count(0), 2);
    due("it is held by the proxy alone", x.set(ASH, 0, 0), 0);
    due("1", x.count(0), 1);
  }

  // "There is a proxy for a thing of Ash if a global of Birch or Cedar, or a field of a thing of these that is there,
  // refers to it"; neither a global of Ash nor a field of a thing of Ash makes one.
  private static void proxies() {
    for (int language = BIRCH; language <= CEDAR; language++) {
      PolyglotPier x = new PolyglotPier();
      x.make(ASH, 0);
      x.make(ASH, 1);
      x.put(ASH, 1, 0, 0);
      x.pass(ASH, 0, ASH, 2);
      due("no proxy", x.isHeld(0), false);
      x.make(language, 0);
      due("no proxy", x.isHeld(0), false);
      x.pass(language, 0, ASH, 3);
      due("put by Ash into a field of " + language, x.put(ASH, 3, 2, 0), 0);
      due("a proxy", x.isHeld(0), true);
      due("no proxy for the other one", x.isHeld(1), false);
      due("collect", x.collect(), 0);
      due("the field is left", x.isHeld(0), true);
      due("get by Ash", x.get(ASH, 3, 2, 4), 0);
      due("the same one", x.equal(ASH, 0, 4), true);
      x.put(ASH, 3, 2, 7);
      due("it did so", x.isHeld(0), true);
      due("collect", x.collect(), 0);
      due("it did not since", x.isHeld(0), false);
      x.pass(ASH, 1, language, 5);
      x.get(language, 5, 0, 6);
      due("a field of Ash, got into a global of " + language, x.isHeld(0), true);
      due("and the one that had it", x.isHeld(1), true);
    }
  }

  // ".. or did so at some time since collect() or collectRings() was called last".
  private static void proxiesSince() {
    for (int language = BIRCH; language <= CEDAR; language++) {
      for (int rings = 0; rings < 2; rings++) {
        PolyglotPier x = new PolyglotPier();
        x.make(ASH, 0);
        x.pass(ASH, 0, language, 3);
        x.set(language, 3, 0);
        due("it did", x.isHeld(0), true);
        due("2", x.count(0), 2);
        due("the global of Ash", x.set(ASH, 0, 0), 0);
        due("it is there by the proxy that was", x.count(0), 1);
        due("a collection", rings == 0 ? x.collect() : x.collectRings(), 1);
        due("it is freed", x.isThere(0), false);
        x.make(ASH, 0);
        due("one in its room has no proxy", x.isHeld(1), false);
        x.pass(ASH, 0, language, 3);
        due("a collection", rings == 0 ? x.collect() : x.collectRings(), 0);
        due("it does", x.isHeld(1), true);
        x.set(language, 3, 0);
        due("it did since", x.isHeld(1), true);
        due("a collection", rings == 0 ? x.collectRings() : x.collect(), 0);
        due("it did not since", x.isHeld(1), false);
        due("1", x.count(1), 1);
      }
    }
  }

  // In runs: a local, a stack, an argument and a result are no global and no field.
  private static void proxiesOfRuns() {
    for (int language = BIRCH; language <= CEDAR; language++) {
      PolyglotPier x = new PolyglotPier();
      x.make(ASH, 0);
      int passes = function(x, language, 1, "l0 s1 l1 r");
      due("it is passed", told(x, function(x, ASH, 0, "g0 c" + passes + " r")), "r t 0");
      due("no proxy", x.isHeld(0), false);
      int throwing = function(x, language, 1, "l0 t");
      due("it is thrown", told(x, function(x, ASH, 0, "g0 c" + throwing)), "x t 0");
      due("no proxy", x.isHeld(0), false);
      int keeps = function(x, language, 1, "l0 p7 n0 p7");
      due("it is in a global for a while", told(x, function(x, ASH, 0, "g0 c" + keeps)), "r u");
      due("a proxy", x.isHeld(0), true);
      x.collect();
      due("no proxy", x.isHeld(0), false);
      int field = function(x, language, 1, "o s1 l1 l0 q2 l1 n0 q2");
      due("it is in a field for a while", told(x, function(x, ASH, 0, "g0 c" + field)), "r u");
      due("a proxy", x.isHeld(0), true);
    }
    PolyglotPier y = new PolyglotPier();
    y.make(BIRCH, 0);
    y.pass(BIRCH, 0, ASH, 0);
    int made = function(y, ASH, 0, "g0 o q1");
    due("Ash puts a new thing into a field of Birch", told(y, made), "r u");
    due("it is there by its proxy", y.isHeld(1), true);
    due("its count", y.count(1), 1);
  }

  // "A thing of Birch or Cedar has a handle if a global of Ash or a field of a thing of Ash refers to it".
  private static void handles() {
    for (int language = BIRCH; language <= CEDAR; language++) {
      PolyglotPier x = new PolyglotPier();
      x.make(language, 0);
      int other = BIRCH + CEDAR - language;
      for (int i = 0; i < 24; i++) {
        if (i / 8 != ASH) {
          x.pass(language, 0, i / 8, i % 8);
        }
      }
      x.make(other, 7);
      x.put(other, 7, 0, 0);
      due("no handle by Birch and Cedar", x.isHeld(0), false);
      due("no count", x.count(0), 0);
      x.pass(language, 0, ASH, 7);
      due("a handle by a global", x.isHeld(0), true);
      due("the references in Ash", x.count(0), 1);
      x.pass(language, 0, ASH, 0);
      due("the references in Ash", x.count(0), 2);
      x.set(ASH, 7, 0);
      x.set(ASH, 0, 0);
      due("none since it was", x.isHeld(0), false);
      due("none since it was", x.count(0), 0);
      x.make(ASH, 1);
      x.pass(ASH, 1, language, 6);
      for (int field = 0; field < 3; field++) {
        x.put(language, 6, field, 0);
        due("a handle by a field", x.isHeld(0), true);
        due("the references in Ash", x.count(0), field + 1);
      }
      x.set(ASH, 1, 0);
      due("the thing of Ash is there", x.isThere(2), true);
      due("a handle by a field of what a proxy holds", x.isHeld(0), true);
      x.set(language, 6, 0);
      due("the proxy is freed, and the thing of Ash", x.collect(), 1);
      due("no handle", x.isHeld(0), false);
      due("no count", x.count(0), 0);
    }
  }

  // "Behind each call of this class that changes something, things of Ash with a count of 0 are freed": by each call.
  private static void freedBehindCalls() {
    PolyglotPier x = new PolyglotPier();
    x.make(ASH, 0);
    due("make over it", x.make(ASH, 0), 1);
    due("freed", x.freed(), 1);
    due("pass over it", x.pass(BIRCH, 0, ASH, 0), 0);
    due("freed", x.freed(), 2);
    x.make(ASH, 0);
    x.make(ASH, 1);
    x.put(ASH, 0, 0, 1);
    x.set(ASH, 1, 0);
    due("none yet", x.freed(), 2);
    due("put over it", x.put(ASH, 0, 0, 1), 0);
    due("freed", x.freed(), 3);
    due("get over it", x.get(ASH, 0, 0, 0), 0);
    due("freed", x.freed(), 4);
    x.make(ASH, 0);
    due("a run over it", told(x, function(x, ASH, 0, "n0 p0")), "r u");
    due("freed", x.freed(), 5);
    due("a run that makes one and drops it", told(x, function(x, ASH, 0, "o r")), "r t 5");
    due("freed", x.freed(), 6);
    due("a run that throws one", told(x, function(x, ASH, 0, "o t")), "x t 6");
    due("freed", x.freed(), 7);
    due("its number", x.resultWhole(), 6L);
    x.make(ASH, 0);
    x.pass(ASH, 0, BIRCH, 0);
    x.set(ASH, 0, 0);
    x.set(BIRCH, 0, 0);
    due("none yet", x.freed(), 7);
    due("collect", x.collect(), 1);
    due("freed", x.freed(), 8);
    x.make(ASH, 0);
    due("set over it", x.set(ASH, 0, 0), 1);
    due("made", x.made(), 9);
    due("freed", x.freed(), 9);
  }

  // "and with them references in their fields, and so on": also those to things of Birch and Cedar.
  private static void freedWithFields() {
    PolyglotPier x = new PolyglotPier();
    x.make(ASH, 0);
    x.make(BIRCH, 0);
    x.make(ASH, 1);
    x.pass(BIRCH, 0, ASH, 2);
    x.put(ASH, 1, 0, 2);
    x.put(ASH, 0, 2, 1);
    x.set(ASH, 1, 0);
    x.set(ASH, 2, 0);
    due("a handle", x.count(1), 1);
    due("two are freed", x.set(ASH, 0, 0), 2);
    due("no handle", x.count(1), 0);
    due("the thing of Birch is there", x.isThere(1), true);
    PolyglotPier y = new PolyglotPier();
    y.make(ASH, 0);
    y.make(ASH, 1);
    for (int field = 0; field < 3; field++) {
      y.put(ASH, 0, field, 1);
    }
    y.set(ASH, 1, 0);
    due("one that is held three times", y.count(1), 3);
    due("two are freed, each one once", y.set(ASH, 0, 0), 2);
    PolyglotPier z = new PolyglotPier();
    z.make(ASH, 0);
    z.make(ASH, 1);
    z.put(ASH, 0, 0, 1);
    z.put(ASH, 1, 0, 0);
    z.make(ASH, 2);
    z.put(ASH, 0, 1, 2);
    z.set(ASH, 2, 0);
    due("a ring", z.set(ASH, 0, 0), 0);
    due("is not freed by counts", z.set(ASH, 1, 0), 0);
    due("nor what it refers to", z.things(ASH), 3);
    due("but by collectRings", z.collectRings(), 3);
  }

  // "Nothing is freed while a function runs."
  private static void nothingIsFreedInRuns() {
    PolyglotPier x = new PolyglotPier();
    x.make(ASH, 0);
    x.set(BIRCH, 1, 9);
    due("a thing of a global, kept in a local alone",
        told(x, function(x, ASH, 0, "g0 s0 n0 p0 l0 n5 q1 l0 p0 g0 f1 r")), "r d 5.0");
    due("it is there", x.count(0), 1);
    due("none is freed", x.freed(), 0);
    PolyglotPier y = new PolyglotPier();
    due("58 things in a run", told(y, function(y, ASH, 1, times(10, "o") + "l0 n1 - s0 l0 z17 j0 o r"), 5, 0), "r t 50");
    due("they are freed behind it", y.freed(), 51);
    due("the next number", y.make(ASH, 0), 51);
  }

  // ---- collecting

  // "things of Birch and Cedar that cannot be reached from globals of both .. are freed": each global.
  private static void collectFromGlobals() {
    for (int i = 8; i < 24; i++) {
      PolyglotPier x = new PolyglotPier();
      int language = i / 8;
      x.make(language, i % 8);
      x.make(BIRCH + CEDAR - language, i % 8);
      x.pass(BIRCH + CEDAR - language, i % 8, language, (i + 1) % 8);
      x.set(BIRCH + CEDAR - language, i % 8, 0);
      due("both are reached", x.collect(), 0);
      x.set(language, i % 8, 0);
      due("the first one is not", x.collect(), 1);
      due("the first one is not", x.isThere(0), false);
      x.set(language, (i + 1) % 8, 0);
      due("nor the second one", x.collect(), 1);
      due("none is left", x.collect(), 0);
    }
  }

  // "or from things with handles".
  private static void collectFromHandles() {
    for (int language = BIRCH; language <= CEDAR; language++) {
      PolyglotPier x = new PolyglotPier();
      x.make(language, 0);
      x.make(language, 1);
      x.put(language, 0, 0, 1);
      x.pass(language, 0, ASH, 7);
      x.set(language, 0, 0);
      x.set(language, 1, 0);
      due("by a global of Ash, and over a field", x.collect(), 0);
      x.make(ASH, 0);
      x.put(ASH, 0, 2, 7);
      x.set(ASH, 7, 0);
      due("by a field of Ash", x.collect(), 0);
      x.pass(ASH, 0, language, 0);
      x.set(ASH, 0, 0);
      due("by a field of Ash that a proxy holds", x.collect(), 0);
      x.set(language, 0, 0);
      due("the thing of Ash is freed by counts, behind what is traced", x.collect(), 1);
      due("the thing of Ash", x.isThere(2), false);
      due("the handle is not there any more", x.isHeld(0), false);
      due("so the others are freed by the next one", x.collect(), 2);
      due("and no more", x.collect(), 0);
    }
  }

  // "over fields of things of both": each field, and as many things in a row as there can be.
  private static void collectOverFields() {
    for (int field = 0; field < 3; field++) {
      PolyglotPier x = new PolyglotPier();
      x.make(BIRCH, 0);
      x.make(CEDAR, 0);
      x.pass(CEDAR, 0, BIRCH, 1);
      x.put(BIRCH, 0, field, 1);
      x.set(CEDAR, 0, 0);
      x.set(BIRCH, 1, 0);
      due("over a field", x.collect(), 0);
      x.put(BIRCH, 0, field, 1);
      due("over none", x.collect(), 1);
    }
    for (int turned = 0; turned < 2; turned++) {
      PolyglotPier x = new PolyglotPier();
      x.make(CEDAR, 0);
      x.pass(CEDAR, 0, CEDAR, 1);
      for (int i = 1; i < 60; i++) {
        x.make(CEDAR, 2);
        x.put(CEDAR, turned == 0 ? 2 : 1, i % 3, turned == 0 ? 0 : 2);
        x.pass(CEDAR, 2, CEDAR, turned == 0 ? 0 : 1);
      }
      x.set(CEDAR, 1, 0);
      x.set(CEDAR, 2, 0);
      due("60 in a row", x.collect(), 0);
      due("60 in a row", x.collectRings(), 0);
      x.set(CEDAR, 0, 0);
      due("none is reached", turned == 0 ? x.collect() : x.collectRings(), 60);
      due("none is there", x.things(CEDAR), 0);
    }
  }

  // collect() does not go over fields of things of Ash, but by the handles that they give.
  private static void collectOverAsh() {
    PolyglotPier x = new PolyglotPier();
    x.make(ASH, 0);
    x.make(CEDAR, 0);
    x.pass(CEDAR, 0, ASH, 1);
    x.put(ASH, 0, 0, 1);
    x.pass(ASH, 0, CEDAR, 1);
    x.put(CEDAR, 0, 0, 1);
    x.set(ASH, 0, 0);
    x.set(ASH, 1, 0);
    x.set(CEDAR, 0, 0);
    x.set(CEDAR, 1, 0);
    due("a ring over the border", x.collect(), 0);
    due("a ring over the border, again", x.collect(), 0);
    due("a proxy", x.isHeld(0), true);
    due("a handle", x.isHeld(1), true);
    due("both are found together", x.collectRings(), 2);
    due("none is left", x.collectRings(), 0);
  }

  // "then there is a proxy .. only if a global of these, or a field of a thing of these that is left, refers to it;
  // then counts are looked at as behind each call".
  private static void proxiesBehindCollect() {
    for (int language = BIRCH; language <= CEDAR; language++) {
      PolyglotPier x = new PolyglotPier();
      x.make(ASH, 0);
      x.make(ASH, 1);
      x.put(ASH, 0, 1, 1);
      x.set(ASH, 1, 0);
      x.make(language, 0);
      x.pass(ASH, 0, language, 1);
      x.put(language, 0, 1, 1);
      x.set(language, 1, 0);
      x.set(ASH, 0, 0);
      due("a field of a thing that is left", x.collect(), 0);
      due("a proxy", x.isHeld(0), true);
      due("no proxy", x.isHeld(1), false);
      x.set(language, 0, 0);
      due("it is there until the collection", x.count(0), 1);
      due("the thing, its thing of Ash, and one more", x.collect(), 3);
      due("freed", x.freed(), 3);
      PolyglotPier y = new PolyglotPier();
      y.make(ASH, 0);
      y.make(language, 0);
      y.pass(ASH, 0, language, 1);
      y.put(language, 0, 1, 1);
      y.set(language, 1, 0);
      y.set(language, 0, 0);
      due("only the thing of " + language, y.collect(), 1);
      due("no proxy", y.isHeld(0), false);
      due("a global of Ash", y.count(0), 1);
    }
  }

  // The thing with the number 0, and the one with the number 59, have fields as others have.
  private static void firstAndLastThing() {
    for (int rings = 0; rings < 2; rings++) {
      PolyglotPier x = new PolyglotPier();
      x.make(BIRCH, 0);
      for (int i = 1; i < 58; i++) {
        x.make(ASH, 0);
      }
      x.make(ASH, 1);
      x.make(CEDAR, 0);
      x.pass(ASH, 0, BIRCH, 1);
      x.put(BIRCH, 0, 0, 1);
      x.pass(ASH, 1, CEDAR, 1);
      x.put(CEDAR, 0, 2, 1);
      x.set(BIRCH, 1, 0);
      x.set(CEDAR, 1, 0);
      due("nothing to free", rings == 0 ? x.collect() : x.collectRings(), 0);
      due("a proxy by the first one", x.isHeld(57), true);
      due("a proxy by the last one", x.isHeld(58), true);
      due("held by it alone", x.set(ASH, 0, 0), 0);
      due("held by it alone", x.set(ASH, 1, 0), 0);
      x.set(BIRCH, 0, 0);
      due("the first one and what it held", rings == 0 ? x.collect() : x.collectRings(), 2);
      x.set(CEDAR, 0, 0);
      due("the last one and what it held", rings == 0 ? x.collect() : x.collectRings(), 2);
      due("freed", x.freed(), 60);
    }
  }

  // "all things that cannot be reached from any globals over any fields are freed": each global, of each language.
  private static void collectRingsFromGlobals() {
    for (int i = 0; i < 24; i++) {
      for (int of = ASH; of <= CEDAR; of++) {
        for (int field = 0; field < 3; field++) {
          PolyglotPier x = new PolyglotPier();
          int language = i / 8;
          x.make(of, 3);
          x.put(of, 3, field, 3);
          x.pass(of, 3, language, i % 8);
          if (of * 8 + 3 != i) {
            x.set(of, 3, 0);
          }
          due("it is reached", x.collectRings(), 0);
          due("a proxy, or a handle", x.isHeld(0), of == ASH ? language != ASH : language == ASH);
          x.set(language, i % 8, 0);
          due("it refers to itself", x.isThere(0), true);
          due("it is not reached", x.collectRings(), 1);
          due("it is freed", x.isThere(0), false);
        }
      }
    }
  }

  // "over any fields": over things of all languages, in a row and in a ring.
  private static void collectRingsOverFields() {
    PolyglotPier x = new PolyglotPier();
    for (int i = 0; i < 6; i++) {
      x.make(i % 3, 0);
      x.pass(i % 3, 0, ASH, i + 1);
    }
    for (int i = 0; i < 6; i++) {
      // Ash puts each one into a field of the one before it, and the first one into the last one.
      due("put", x.put(ASH, i + 1, i % 3, (i + 1) % 6 + 1), 0);
    }
    for (int language = ASH; language <= CEDAR; language++) {
      x.set(language, 0, 0);
    }
    for (int i = 2; i < 7; i++) {
      x.set(ASH, i, 0);
    }
    due("a global of Ash has one of them", x.collectRings(), 0);
    x.pass(ASH, 1, CEDAR, 5);
    due("that is the last one", x.set(ASH, 1, 0), 0);
    due("a global of Cedar has it", x.collectRings(), 0);
    x.set(CEDAR, 5, 0);
    due("collect finds none", x.collect(), 0);
    due("all of them", x.collectRings(), 6);
    due("freed", x.freed(), 6);
  }

  // "and there are proxies likewise for what is left".
  private static void proxiesBehindCollectRings() {
    PolyglotPier x = new PolyglotPier();
    x.make(ASH, 0);
    x.make(BIRCH, 0);
    x.pass(ASH, 0, BIRCH, 1);
    x.put(BIRCH, 0, 0, 1);
    x.put(BIRCH, 0, 1, 0);
    x.set(BIRCH, 1, 0);
    due("a field of a thing that is left", x.collectRings(), 0);
    due("a proxy", x.isHeld(0), true);
    x.set(BIRCH, 0, 0);
    due("a proxy until then", x.count(0), 2);
    due("a ring of Birch", x.collectRings(), 1);
    due("no proxy", x.isHeld(0), false);
    due("count", x.count(0), 1);
    x.pass(ASH, 0, CEDAR, 1);
    due("a global", x.collectRings(), 0);
    due("a proxy", x.isHeld(0), true);
    x.set(ASH, 0, 0);
    due("reached by Cedar alone", x.collectRings(), 0);
    due("it is there", x.count(0), 1);
    x.set(CEDAR, 1, 0);
    due("no more", x.collectRings(), 1);
  }

  // A collection of 60 things, and none; and escapes, numbers and nothings, which refer to no thing.
  private static void fullAndEmpty() {
    for (int language = BIRCH; language <= CEDAR; language++) {
      for (int rings = 0; rings < 2; rings++) {
        PolyglotPier x = new PolyglotPier();
        due("none", rings == 0 ? x.collect() : x.collectRings(), 0);
        for (int i = 0; i < 60; i++) {
          x.make(language, i % 8);
        }
        due("all but 8", rings == 0 ? x.collect() : x.collectRings(), 52);
        for (int i = 0; i < 8; i++) {
          x.set(language, i, 0);
        }
        due("the last 8", rings == 0 ? x.collect() : x.collectRings(), 8);
        due("none", rings == 0 ? x.collect() : x.collectRings(), 0);
        due("freed", x.freed(), 60);
        due("made", x.made(), 60);
        due("all", x.freedShare(), 1.0f);
      }
    }
    PolyglotPier y = new PolyglotPier();
    y.make(CEDAR, 0);
    y.set(CEDAR, 1, 0);
    y.run(function(y, CEDAR, 0, "k0 p2"), 0, 0);
    y.set(CEDAR, 0, 0);
    due("a 0 and an escape refer to none", y.collect(), 1);
  }

  // ---- figures

  // isThere, things and made: of each language, before and behind.
  private static void figures() {
    PolyglotPier x = new PolyglotPier();
    for (int language = ASH; language <= CEDAR; language++) {
      for (int i = 0; i <= language; i++) {
        x.make(language, i);
        due("things", x.things(language), i + 1);
        due("is there", x.isThere(x.made() - 1), true);
      }
    }
    due("made", x.made(), 6);
    due("freed", x.freed(), 0);
    due("freedShare", x.freedShare(), 0.0f);
    x.set(ASH, 0, 0);
    due("things of Ash", x.things(ASH), 0);
    due("things of Birch", x.things(BIRCH), 2);
    due("things of Cedar", x.things(CEDAR), 3);
    due("freedShare", x.freedShare(), 1.0f / 6.0f);
    due("made", x.made(), 6);
    for (int i = 0; i < 60 - 5; i++) {
      x.make(BIRCH, 7);
    }
    due("60 are there", x.things(BIRCH) + x.things(CEDAR), 60);
    due("made", x.made(), 61);
    due("freedShare, as floats", x.freedShare(), 1.0f / 61.0f);
  }

  // isSound: it holds behind all that the face can do.
  private static void sound() {
    PolyglotPier x = sixtyInARow(true);
    due("full", x.isSound(), true);
    x.set(ASH, 0, 0);
    due("empty", x.isSound(), true);
    x.make(ASH, 0);
    x.make(CEDAR, 0);
    x.pass(ASH, 0, CEDAR, 1);
    x.put(CEDAR, 0, 0, 1);
    due("held", x.isSound(), true);
    x.set(ASH, 0, 0);
    x.set(CEDAR, 1, 0);
    due("held by a proxy alone", x.isSound(), true);
    x.set(CEDAR, 0, 0);
    due("held by a thing that none refers to", x.isSound(), true);
    x.collect();
    due("freed", x.isSound(), true);
    due("a run that the limit ends", told(x, function(x, ASH, 0, "o j1")), "l");
    due("it is sound", x.isSound(), true);
  }

  // "crossings .. in runs": by no other call, and by no value that stays in its language.
  private static void noCrossings() {
    PolyglotPier x = new PolyglotPier();
    x.make(ASH, 0);
    x.pass(ASH, 0, BIRCH, 0);
    x.put(BIRCH, 0, 0, 1);
    x.get(BIRCH, 0, 0, 1);
    due("calls are no runs", x.crossings(), 0L);
    int same = function(x, BIRCH, 2, "l0 r");
    x.run(same, 1, 2);
    x.run(function(x, BIRCH, 0, "n1 n2 c0 o s0 l0 n1 q0 l0 f0 t"), 0, 0);
    due("at home", x.crossings(), 0L);
    x.run(function(x, BIRCH, 0, "g0 f0"), 0, 0);
    due("a field of Ash", x.crossings(), 1L);
    x.run(function(x, BIRCH, 0, "g0 g0 q0"), 0, 0);
    due("a reference into a field of Ash", x.crossings(), 2L);
    x.run(function(x, BIRCH, 0, "g0 f3"), 0, 0);
    x.run(function(x, BIRCH, 0, "g0 q0"), 0, 0);
    due("faults ahead of it", x.crossings(), 2L);
  }

  // "An object is used for at most 512 calls": of the dearest ones, which all are answered.
  private static void manyCalls() {
    PolyglotPier x = new PolyglotPier();
    function(x, CEDAR, 0, idle(0, 18) + "o r");
    int most = function(x, ASH, 0, times(18, "c0") + "p0 j0");
    // 42 calls have made the functions, and 4 are to come.
    for (int i = 0; i < 512 - 42 - 4; i++) {
      x.run(most, 0, 0);
    }
    due("it is full", x.things(CEDAR), 60);
    due("the fault crosses to Ash", x.resultNumber(), 7.0);
    due("it is sound", x.isSound(), true);
    due("all but one that a global of Ash refers to", x.collectRings(), 59);
  }

  public static void main(String[] args) {
    newObject();
    setNumbers();
    setFrees();
    ontoItself();
    kinds();
    numbers();
    numbersOfThings();
    sixtyOfAllLanguages();
    fieldsAtFirst();
    counts();
    countsOfProxies();
    proxies();
    proxiesSince();
    proxiesOfRuns();
    handles();
    freedBehindCalls();
    freedWithFields();
    nothingIsFreedInRuns();
    collectFromGlobals();
    collectFromHandles();
    collectOverFields();
    collectOverAsh();
    proxiesBehindCollect();
    firstAndLastThing();
    collectRingsFromGlobals();
    collectRingsOverFields();
    proxiesBehindCollectRings();
    fullAndEmpty();
    figures();
    sound();
    noCrossings();
    manyCalls();
    end();
  }
}
