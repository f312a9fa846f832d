import java.math.BigDecimal;
import java.util.ArrayList;
import java.util.HashSet;
import java.util.List;
import java.util.NoSuchElementException;
import java.util.Set;
import java.util.TreeMap;

/**
 * Compares PolyglotPier with a second program that was written from the document alone, in another
 * way (a call is a Java call, a throw is a Java throw, counts and proxies are looked up anew), over
 * many runs of calls that a row of numbers draws.
 */
public final class ModelTest {
  private static final int SESSIONS = 4000;
  private static final int CALLS = 300;

  // ---- the second program

  /** A value: its kind, and a Double, an Integer, a Long, the number of a thing, or an Escape. */
  private record Val(char kind, Object of) {}

  private record Escape(Object frame, int place) {}

  private record Code(char op, int number) {}

  private static final class Fn {
    int language;
    int parameters;
    final List<Code> codes = new ArrayList<>();
    int from;
    int to;
    int at = -1;
    boolean all;
  }

  private static final class Frame {
    Fn fn;
    int number;
    int at;
    int next;
    final Val[] locals = new Val[4];
    List<Val> stack = new ArrayList<>();
  }

  private static final class Thing {
    int language;
    Val[] fields;
  }

  private static final class Limit extends RuntimeException {
    private static final long serialVersionUID = 1;

    Limit() {
      super(null, null, false, false);
    }
  }

  private static final class Fault extends RuntimeException {
    private static final long serialVersionUID = 1;
    final int number;

    Fault(int number) {
      super(null, null, false, false);
      this.number = number;
    }
  }

  private static final class Thrown extends RuntimeException {
    private static final long serialVersionUID = 1;
    final transient Val value;
    final int language;
    final transient List<Integer> trace;

    Thrown(Val value, int language, List<Integer> trace) {
      super(null, null, false, false);
      this.value = value;
      this.language = language;
      this.trace = trace;
    }
  }

  private static final class Escaped extends RuntimeException {
    private static final long serialVersionUID = 1;
    final transient Escape to;
    final transient Val value;

    Escaped(Escape to, Val value) {
      super(null, null, false, false);
      this.to = to;
      this.value = value;
    }
  }

  private static final class Model {
    final List<Fn> fns = new ArrayList<>();
    final Val[][] globals = new Val[3][8];
    final TreeMap<Integer, Thing> alive = new TreeMap<>();
    final Set<Integer> proxies = new HashSet<>();
    int made;
    long crossings;
    final List<Frame> frames = new ArrayList<>();
    int done;
    char outcome = '?';
    Val result;
    Thrown left;

    Model() {
      for (int language = 0; language < 3; language++) {
        for (int global = 0; global < 8; global++) {
          globals[language][global] = nothing(language);
        }
      }
    }

    static Val nothing(int language) {
      return new Val("une".charAt(language), null);
    }

    static Val number(int language, int number) {
      return switch (language) {
        case 0 -> new Val('d', (double) number);
        case 1 -> new Val('i', number);
        default -> new Val('j', (long) number);
      };
    }

    static boolean isNothing(Val v) {
      return v.of == null;
    }

    static boolean isNumber(Val v) {
      return "dij".indexOf(v.kind) >= 0;
    }

    static double asDouble(Val v) {
      return ((Number) v.of).doubleValue();
    }

    static BigDecimal exact(Val v) {
      return v.kind == 'd' ? new BigDecimal((Double) v.of) : BigDecimal.valueOf(((Number) v.of).longValue());
    }

    static boolean isFinite(Val v) {
      return v.kind != 'd' || Double.isFinite((Double) v.of);
    }

    static boolean equal(Val a, Val b) {
      if (isNumber(a) && isNumber(b)) {
        if (isFinite(a) && isFinite(b)) {
          return exact(a).compareTo(exact(b)) == 0;
        }
        return asDouble(a) == asDouble(b);
      }
      if (isNothing(a) && isNothing(b)) {
        return true;
      }
      if (a.kind == 'k' && b.kind == 'k') {
        Escape x = (Escape) a.of;
        Escape y = (Escape) b.of;
        return x.frame == y.frame && x.place == y.place;
      }
      return a.kind == 't' && b.kind == 't' && a.of.equals(b.of);
    }

    /** The value as one of the other language; throws the fault if there is none. */
    static Val cross(Val v, int from, int to) {
      if (from == to || v.kind == 't') {
        return v;
      }
      if (v.kind == 'k') {
        throw new Fault(5);
      }
      if (isNothing(v)) {
        return new Val(to == 2 ? 'e' : 'n', null);
      }
      if (v.kind == 'd') {
        double d = (Double) v.of;
        if (to == 0) {
          return v;
        }
        boolean isZeroBelow = Double.doubleToRawLongBits(d) == Long.MIN_VALUE;
        boolean whole = Double.isFinite(d) && !isZeroBelow && d == Math.rint(d);
        if (whole && to == 1 && fits(exact(v), Integer.MIN_VALUE, Integer.MAX_VALUE)) {
          return new Val('i', exact(v).intValueExact());
        }
        if (to == 1) {
          return v;
        }
        if (whole && fits(exact(v), Long.MIN_VALUE, Long.MAX_VALUE)) {
          return new Val('j', exact(v).longValueExact());
        }
        throw new Fault(4);
      }
      long whole = ((Number) v.of).longValue();
      if (to == 0) {
        if (new BigDecimal((double) whole).compareTo(BigDecimal.valueOf(whole)) != 0) {
          throw new Fault(4);
        }
        return new Val('d', (double) whole);
      }
      if (to == 2) {
        return new Val('j', whole);
      }
      if (!fits(BigDecimal.valueOf(whole), Integer.MIN_VALUE, Integer.MAX_VALUE)) {
        throw new Fault(4);
      }
      return new Val('i', (int) whole);
    }

    static boolean fits(BigDecimal d, long least, long most) {
      return d.compareTo(BigDecimal.valueOf(least)) >= 0 && d.compareTo(BigDecimal.valueOf(most)) <= 0;
    }

    Val crossCounted(Val v, int from, int to) {
      if (from != to) {
        crossings++;
      }
      return cross(v, from, to);
    }

    // -- things

    int newThing(int language) {
      if (alive.size() == 60) {
        throw new Fault(7);
      }
      Thing t = new Thing();
      t.language = language;
      t.fields = new Val[] {nothing(language), nothing(language), nothing(language)};
      alive.put(made, t);
      return made++;
    }

    void lookForProxies() {
      for (int language = 1; language < 3; language++) {
        for (Val v : globals[language]) {
          noteProxy(v);
        }
      }
      for (Thing t : alive.values()) {
        if (t.language != 0) {
          for (Val v : t.fields) {
            noteProxy(v);
          }
        }
      }
    }

    void noteProxy(Val v) {
      if (v.kind == 't' && alive.get(v.of).language == 0) {
        proxies.add((Integer) v.of);
      }
    }

    int inAsh(int number) {
      int n = 0;
      for (Val v : globals[0]) {
        n += v.kind == 't' && v.of.equals(number) ? 1 : 0;
      }
      for (Thing t : alive.values()) {
        if (t.language == 0) {
          for (Val v : t.fields) {
            n += v.kind == 't' && v.of.equals(number) ? 1 : 0;
          }
        }
      }
      return n;
    }

    int count(int number) {
      return inAsh(number) + (alive.get(number).language == 0 && proxies.contains(number) ? 1 : 0);
    }

    boolean isHeld(int number) {
      return alive.get(number).language == 0 ? proxies.contains(number) : inAsh(number) > 0;
    }

    int settle() {
      int before = alive.size();
      boolean again = true;
      while (again) {
        again = false;
        for (int number : new ArrayList<>(alive.keySet())) {
          if (alive.get(number).language == 0 && count(number) == 0) {
            alive.remove(number);
            again = true;
          }
        }
      }
      return before - alive.size();
    }

    void reach(Val v, boolean rings, Set<Integer> reached) {
      if (v.kind == 't') {
        reachThing((Integer) v.of, rings, reached);
      }
    }

    void reachThing(int number, boolean rings, Set<Integer> reached) {
      if (!rings && alive.get(number).language == 0) {
        return;
      }
      if (reached.add(number)) {
        for (Val v : alive.get(number).fields) {
          reach(v, rings, reached);
        }
      }
    }

    int collect(boolean rings) {
      int before = alive.size();
      Set<Integer> reached = new HashSet<>();
      for (int language = rings ? 0 : 1; language < 3; language++) {
        for (Val v : globals[language]) {
          reach(v, rings, reached);
        }
      }
      if (!rings) {
        for (int number : alive.keySet()) {
          if (alive.get(number).language != 0 && isHeld(number)) {
            reachThing(number, false, reached);
          }
        }
      }
      alive.entrySet().removeIf(e -> (rings || e.getValue().language != 0) && !reached.contains(e.getKey()));
      proxies.clear();
      lookForProxies();
      settle();
      return before - alive.size();
    }

    // -- runs

    char run(int number, int first, int second) {
      Fn fn = fns.get(number);
      done = 0;
      frames.clear();
      result = null;
      left = null;
      try {
        List<Val> args = new ArrayList<>();
        if (fn.parameters > 0) {
          args.add(number(fn.language, first));
        }
        if (fn.parameters > 1) {
          args.add(number(fn.language, second));
        }
        result = call(number, args);
        outcome = 'r';
      } catch (Thrown t) {
        result = t.value;
        left = t;
        outcome = 'x';
      } catch (Limit l) {
        outcome = 'l';
      }
      settle();
      return outcome;
    }

    List<Integer> traceNow() {
      List<Integer> trace = new ArrayList<>();
      for (int i = frames.size() - 1; i >= 0; i--) {
        trace.add(100 * frames.get(i).number + frames.get(i).at);
      }
      return trace;
    }

    Val call(int number, List<Val> args) {
      Frame frame = new Frame();
      frame.fn = fns.get(number);
      frame.number = number;
      for (int i = 0; i < 4; i++) {
        frame.locals[i] = i < args.size() ? args.get(i) : nothing(frame.fn.language);
      }
      frames.add(frame);
      int height = frames.size();
      try {
        while (frame.next < frame.fn.codes.size()) {
          if (done == 400) {
            throw new Limit();
          }
          done++;
          frame.at = frame.next++;
          Val returned = stepGuarded(frame);
          if (returned != null) {
            return returned;
          }
        }
        return nothing(frame.fn.language);
      } finally {
        while (frames.size() >= height) {
          frames.remove(frames.size() - 1);
        }
      }
    }

    Val stepGuarded(Frame frame) {
      Fn fn = frame.fn;
      try {
        try {
          return step(frame, fn.codes.get(frame.at));
        } catch (Fault f) {
          throw new Thrown(number(fn.language, f.number), fn.language, traceNow());
        }
      } catch (Thrown t) {
        boolean guarded = fn.at >= 0 && frame.at >= fn.from && frame.at <= fn.to;
        if (!guarded || !(fn.all || t.language == fn.language)) {
          throw t;
        }
        goOn(frame, fn.at, t.value);
      } catch (Escaped e) {
        if (e.to.frame != frame) {
          throw e;
        }
        goOn(frame, e.to.place, e.value);
      }
      return null;
    }

    static void goOn(Frame frame, int at, Val value) {
      frame.stack.clear();
      frame.stack.add(value);
      frame.next = at;
    }

    static Val pop(Frame frame) {
      if (frame.stack.isEmpty()) {
        throw new Fault(3);
      }
      return frame.stack.remove(frame.stack.size() - 1);
    }

    static void check(boolean good, int fault) {
      if (!good) {
        throw new Fault(fault);
      }
    }

    Val step(Frame frame, Code code) {
      int language = frame.fn.language;
      int n = code.number;
      int size = frame.fn.codes.size();
      List<Val> stack = frame.stack;
      switch (code.op) {
        case 'n' -> stack.add(number(language, n));
        case 'h' -> {
          check(language != 2, 8);
          stack.add(new Val('d', n / 2.0));
        }
        case 'l' -> {
          check(n >= 0 && n < 4, 8);
          stack.add(frame.locals[n]);
        }
        case 's' -> {
          check(n >= 0 && n < 4, 8);
          frame.locals[n] = pop(frame);
        }
        case 'g' -> {
          check(n >= 0 && n < 8, 8);
          stack.add(globals[language][n]);
        }
        case 'p' -> {
          check(n >= 0 && n < 8, 8);
          globals[language][n] = pop(frame);
          lookForProxies();
        }
        case '+', '-', '*', '/', '<', '=' -> stack.add(two(frame, code.op));
        case 'z' -> {
          check(n >= 0 && n <= size, 8);
          Val v = pop(frame);
          if (isNothing(v) || (isNumber(v) && asDouble(v) == 0)) {
            frame.next = n;
          }
        }
        case 'j' -> {
          check(n >= 0 && n <= size, 8);
          frame.next = n;
        }
        case 'o' -> stack.add(new Val('t', newThing(language)));
        case 'f' -> {
          check(n >= 0 && n < 3, 8);
          Val r = pop(frame);
          check(r.kind == 't', 3);
          Thing t = alive.get(r.of);
          stack.add(crossCounted(t.fields[n], t.language, language));
        }
        case 'q' -> {
          check(n >= 0 && n < 3, 8);
          Val v = pop(frame);
          Val r = pop(frame);
          check(r.kind == 't', 3);
          Thing t = alive.get(r.of);
          t.fields[n] = crossCounted(v, language, t.language);
          lookForProxies();
        }
        case 'c' -> callOut(frame, n);
        case 'r' -> {
          return pop(frame);
        }
        case 't' -> throw new Thrown(pop(frame), language, traceNow());
        case 'k' -> {
          check(language == 2 && n >= 0 && n <= size, 8);
          stack.add(new Val('k', new Escape(frame, n)));
        }
        case 'e' -> {
          check(language == 2, 8);
          Val v = pop(frame);
          Val k = pop(frame);
          check(k.kind == 'k', 3);
          Escape to = (Escape) k.of;
          int level = frames.indexOf(to.frame);
          check(level >= 0, 6);
          for (Frame above : frames.subList(level, frames.size())) {
            check(above.fn.language == 2, 6);
          }
          throw new Escaped(to, v);
        }
        default -> throw new IllegalStateException("no op " + code.op);
      }
      return null;
    }

    void callOut(Frame frame, int n) {
      int language = frame.fn.language;
      check(n >= 0 && n < fns.size(), 8);
      Fn callee = fns.get(n);
      check(frame.stack.size() >= callee.parameters, 3);
      check(frames.size() < 12, 7);
      List<Val> args = new ArrayList<>();
      for (int i = 0; i < callee.parameters; i++) {
        args.add(0, pop(frame));
      }
      for (int i = 0; i < args.size(); i++) {
        args.set(i, crossCounted(args.get(i), language, callee.language));
      }
      Val back;
      try {
        back = call(n, args);
      } catch (Thrown t) {
        Thrown crossed;
        try {
          crossed = new Thrown(crossCounted(t.value, callee.language, language), t.language, t.trace);
        } catch (Fault f) {
          List<Integer> joined = new ArrayList<>(t.trace);
          joined.addAll(traceNow());
          crossed = new Thrown(number(language, f.number), language, joined);
        }
        throw crossed;
      }
      frame.stack.add(crossCounted(back, callee.language, language));
    }

    Val two(Frame frame, char op) {
      int language = frame.fn.language;
      check(frame.stack.size() >= 2, 3);
      Val b = pop(frame);
      Val a = pop(frame);
      if (op == '=') {
        return number(language, equal(a, b) ? 1 : 0);
      }
      check(isNumber(a) && isNumber(b), 3);
      if (op == '<') {
        boolean less = a.kind == 'j' ? (Long) a.of < (Long) b.of : asDouble(a) < asDouble(b);
        return number(language, less ? 1 : 0);
      }
      if (a.kind == 'd' || b.kind == 'd') {
        double x = asDouble(a);
        double y = asDouble(b);
        return new Val('d', op == '+' ? x + y : op == '-' ? x - y : op == '*' ? x * y : x / y);
      }
      check(op != '/' || ((Number) b.of).longValue() != 0, 2);
      if (a.kind == 'j') {
        long x = (Long) a.of;
        long y = (Long) b.of;
        return new Val('j', op == '+' ? x + y : op == '-' ? x - y : op == '*' ? x * y : x / y);
      }
      try {
        int x = (Integer) a.of;
        int y = (Integer) b.of;
        check(op != '/' || x != Integer.MIN_VALUE || y != -1, 1);
        int r = op == '+' ? Math.addExact(x, y) : op == '-' ? Math.subtractExact(x, y)
            : op == '*' ? Math.multiplyExact(x, y) : x / y;
        return new Val('i', r);
      } catch (ArithmeticException e) {
        throw new Fault(1);
      }
    }
  }

  // ---- the same call on both, answers as texts

  private static long seed;
  private static PolyglotPier pier;
  private static Model model;
  private static final List<String> told = new ArrayList<>();
  private static int wrong;

  private static int draw(int bound) {
    seed = seed * 6364136223846793005L + 1442695040888963407L;
    return (int) ((seed >>> 33) % bound);
  }

  private static int among(int... choices) {
    return choices[draw(choices.length)];
  }

  /** Mostly an index below the bound, now and then one that is not. */
  private static int index(int bound) {
    return draw(40) == 0 ? among(-1, bound, bound + 1, -7) : bound < 1 ? 0 : draw(bound);
  }

  private interface Ask {
    Object now();
  }

  private static String answer(Ask ask) {
    try {
      return String.valueOf(ask.now());
    } catch (RuntimeException e) {
      return "throws." + e.getClass().getSimpleName();
    }
  }

  private static void compare(String call, Ask ofPier, Ask ofModel) {
    String got = answer(ofPier);
    String due = answer(ofModel);
    told.add(call + " -> " + got);
    if (!got.equals(due) && wrong++ == 0) {
      told.forEach(System.out::println);
      System.out.println("  due is " + due);
    }
  }

  private static RuntimeException outside() {
    return new IndexOutOfBoundsException();
  }

  private static void need(boolean good, RuntimeException otherwise) {
    if (!good) {
      throw otherwise;
    }
  }

  private static boolean in(int index, int bound) {
    return index >= 0 && index < bound;
  }

  private static int faultOf(Ask ask) {
    try {
      ask.now();
      return 0;
    } catch (Fault f) {
      return f.number;
    }
  }

  // ---- the calls

  private static void addFunction() {
    int language = index(3);
    int parameters = index(3);
    compare("addFunction(" + language + ", " + parameters + ")", () -> pier.addFunction(language, parameters), () -> {
      need(in(language, 3) && in(parameters, 3), new IllegalArgumentException());
      need(model.fns.size() < 9, new IllegalStateException());
      Fn fn = new Fn();
      fn.language = language;
      fn.parameters = parameters;
      model.fns.add(fn);
      return model.fns.size() - 1;
    });
  }

  private static int numberFor(char op, Fn fn) {
    if (draw(30) == 0) {
      return among(-1, 3, 4, 8, 9, 20, 21, 9999, -9999, 10000, -10000);
    }
    return switch (op) {
      case 'n', 'h' -> among(0, 1, -1, 2, 3, 5, 9999, -9999, draw(20) - 10);
      case 'l', 's' -> draw(4);
      case 'g', 'p' -> draw(3);
      case 'f', 'q' -> draw(3);
      case 'c' -> draw(Math.max(1, model.fns.size()));
      case 'z', 'j', 'k' -> Math.min(20, fn.codes.size() + among(-3, 0, 1, 1, 2, 2, 3, 4));
      default -> 0;
    };
  }

  private static void code() {
    int function = draw(60) == 0 ? index(model.fns.size()) : model.fns.isEmpty() ? 0 : draw(model.fns.size());
    Fn fn = in(function, model.fns.size()) ? model.fns.get(function) : new Fn();
    String ops = "nnnnhhllllssgggppp++-**//<=zzjoooffqqqccccrrtt" + (fn.language == 2 ? "kkkkkeee" : "");
    char op = draw(150) == 0 ? "yxke h".charAt(draw(6)) : ops.charAt(draw(ops.length()));
    addCode(function, op, numberFor(op, fn));
  }

  private static void addCode(int function, char op, int number) {
    compare("code(" + function + ", '" + op + "', " + number + ")", () -> pier.code(function, op, number), () -> {
      need(in(function, model.fns.size()), outside());
      boolean good = "nhlsgp+-*/<=zjofqcrtke".indexOf(op) >= 0 && Math.abs(number) <= 9999;
      need(good, new IllegalArgumentException());
      Fn changed = model.fns.get(function);
      need(changed.codes.size() < 20, new IllegalStateException());
      changed.codes.add(new Code(op, number));
      return changed.codes.size() - 1;
    });
  }

  /** Codes that make sense together, so that runs get far. */
  private static void phrase() {
    if (model.fns.isEmpty()) {
      return;
    }
    int function = draw(model.fns.size());
    Fn fn = model.fns.get(function);
    StringBuilder codes = new StringBuilder();
    statement(codes, fn);
    for (String token : codes.toString().trim().split(" +")) {
      addCode(function, token.charAt(0), token.length() > 1 ? Integer.parseInt(token.substring(1)) : 0);
    }
  }

  private static void statement(StringBuilder codes, Fn fn) {
    int drawn = draw(20);
    int some = draw(3);
    if (drawn < 3) {
      value(codes, fn, 2);
      codes.append(" s").append(2 + draw(2));
    } else if (drawn < 5) {
      value(codes, fn, 2);
      codes.append(" p").append(some);
    } else if (drawn < 7) {
      codes.append(draw(2) == 0 ? " o s3" : " o p" + some);
    } else if (drawn < 10) {
      reference(codes, fn);
      value(codes, fn, 1);
      codes.append(" q").append(some);
    } else if (drawn < 12) {
      call(codes, fn, 1);
      codes.append(draw(2) == 0 ? " s2" : " r");
    } else if (drawn < 14) {
      value(codes, fn, 1);
      codes.append(" z").append(Math.min(20, fn.codes.size() + 2 + draw(5)));
    } else if (drawn < 16) {
      value(codes, fn, 2);
      codes.append(" r");
    } else if (drawn < 17) {
      value(codes, fn, 1);
      codes.append(" t");
    } else {
      escapeOr(codes, fn);
    }
  }

  private static void escapeOr(StringBuilder codes, Fn fn) {
    int there = Math.min(20, fn.codes.size() + draw(6));
    if (fn.language != 2) {
      call(codes, fn, 1);
    } else if (draw(2) == 0) {
      codes.append(" k").append(there).append(" p0 ");
      call(codes, fn, 1);
    } else {
      codes.append(draw(2) == 0 ? " g0" : " l0");
      value(codes, fn, 1);
      codes.append(" e");
    }
  }

  private static void reference(StringBuilder codes, Fn fn) {
    String[] some = {" o", " l3", " g0", " g1", " l2"};
    codes.append(some[draw(some.length)]);
  }

  private static void value(StringBuilder codes, Fn fn, int depth) {
    int drawn = draw(depth > 0 ? 14 : 8);
    if (drawn < 2) {
      codes.append(" n").append(among(0, 1, -1, 2, 3, 5, 9999, -9999));
    } else if (drawn < 3) {
      codes.append(fn.language == 2 ? " n" : " h").append(among(0, 1, -1, 2, 4, 7));
    } else if (drawn < 6) {
      codes.append(fn.parameters > 0 ? " l" + draw(fn.parameters) : " n" + draw(9));
    } else if (drawn < 7) {
      codes.append(" g").append(draw(3));
    } else if (drawn < 8) {
      codes.append(draw(3) == 0 ? " o" : " l" + draw(4));
    } else if (drawn < 11) {
      value(codes, fn, depth - 1);
      value(codes, fn, depth - 1);
      codes.append(' ').append("+-**//<=".charAt(draw(8)));
    } else if (drawn < 12) {
      reference(codes, fn);
      codes.append(" f").append(draw(3));
    } else if (drawn < 13) {
      call(codes, fn, depth - 1);
    } else {
      codes.append(fn.language == 2 ? " k" + Math.min(20, fn.codes.size() + 3) : " n0 n0 /");
    }
  }

  private static void call(StringBuilder codes, Fn fn, int depth) {
    int callee = draw(model.fns.size());
    for (int i = 0; i < model.fns.get(callee).parameters; i++) {
      value(codes, fn, depth);
    }
    codes.append(" c").append(callee);
  }

  private static void guard() {
    int function = index(model.fns.size());
    int from = index(20) % 21;
    int to = draw(10) == 0 ? index(20) : 19 - draw(5);
    int at = draw(4) == 0 ? -1 : index(20);
    boolean all = draw(2) == 0;
    compare("guard(" + function + ", " + from + ", " + to + ", " + at + ", " + all + ")",
        () -> pier.guard(function, from, to, at, all), () -> {
          need(in(function, model.fns.size()), outside());
          boolean good = in(from, 20) && in(to, 20) && (at == -1 || in(at, 20)) && to >= from;
          need(good, new IllegalArgumentException());
          Fn fn = model.fns.get(function);
          boolean had = fn.at != -1;
          fn.from = from;
          fn.to = to;
          fn.at = at;
          fn.all = all;
          return had;
        });
  }

  private static int someNumber() {
    return among(0, 1, -1, 2, 3, 7, -8, Integer.MAX_VALUE, Integer.MIN_VALUE, 65536, 2000000000, 46341);
  }

  private static void run() {
    int function = index(model.fns.size());
    int first = someNumber();
    int second = someNumber();
    compare("run(" + function + ", " + first + ", " + second + ")", () -> pier.run(function, first, second), () -> {
      need(in(function, model.fns.size()), outside());
      return model.run(function, first, second);
    });
    results();
  }

  private static void results() {
    NoSuchElementException none = new NoSuchElementException();
    compare("resultKind()", () -> pier.resultKind(), () -> {
      need(model.result != null, none);
      return model.result.kind;
    });
    compare("resultNumber()", () -> pier.resultNumber(), () -> {
      need(model.result != null && Model.isNumber(model.result), none);
      return Model.asDouble(model.result);
    });
    compare("resultWhole()", () -> pier.resultWhole(), () -> {
      need(model.result != null && "ijt".indexOf(model.result.kind) >= 0, none);
      return ((Number) model.result.of).longValue();
    });
    compare("trace()", () -> pier.trace(), () -> {
      need(model.left != null, none);
      return model.left.trace.size();
    });
    int index = index(model.left == null ? 1 : model.left.trace.size());
    compare("traceAt(" + index + ")", () -> pier.traceAt(index), () -> {
      need(model.left != null, none);
      need(in(index, model.left.trace.size()), outside());
      return model.left.trace.get(index);
    });
    compare("thrownIn()", () -> pier.thrownIn(), () -> {
      need(model.left != null, none);
      return model.left.language;
    });
    compare("crossings()", () -> pier.crossings(), () -> model.crossings);
  }

  private static void needGlobal(int language, int global) {
    need(in(language, 3) && in(global, 8), outside());
  }

  private static int global() {
    return draw(5) == 0 ? index(8) : draw(3);
  }

  private static void setOrMake(boolean sets) {
    int language = index(3);
    int global = global();
    int number = someNumber();
    if (sets) {
      compare("set(" + language + ", " + global + ", " + number + ")", () -> pier.set(language, global, number), () -> {
        needGlobal(language, global);
        model.globals[language][global] = Model.number(language, number);
        return model.settle();
      });
      return;
    }
    compare("make(" + language + ", " + global + ")", () -> pier.make(language, global), () -> {
      needGlobal(language, global);
      need(model.alive.size() < 60, new IllegalStateException());
      int thing = model.newThing(language);
      model.globals[language][global] = new Val('t', thing);
      model.settle();
      return thing;
    });
  }

  private static void pass() {
    int language = index(3);
    int global = global();
    int other = index(3);
    int into = global();
    compare("pass(" + language + ", " + global + ", " + other + ", " + into + ")",
        () -> pier.pass(language, global, other, into), () -> {
          needGlobal(language, global);
          needGlobal(other, into);
          return faultOf(() -> {
            model.globals[other][into] = Model.cross(model.globals[language][global], language, other);
            model.lookForProxies();
            return model.settle();
          });
        });
  }

  private static void putOrGet() {
    int language = index(3);
    int global = global();
    int field = index(3);
    int more = global();
    String arguments = "(" + language + ", " + global + ", " + field + ", " + more + ")";
    boolean puts = draw(2) == 0;
    Ask ofModel = () -> {
      needGlobal(language, global);
      needGlobal(language, more);
      need(in(field, 3), outside());
      Val r = model.globals[language][global];
      need(r.kind == 't', new UnsupportedOperationException());
      Thing t = model.alive.get(r.of);
      return faultOf(() -> {
        if (puts) {
          t.fields[field] = Model.cross(model.globals[language][more], language, t.language);
        } else {
          model.globals[language][more] = Model.cross(t.fields[field], t.language, language);
        }
        model.lookForProxies();
        return model.settle();
      });
    };
    if (puts) {
      compare("put" + arguments, () -> pier.put(language, global, field, more), ofModel);
    } else {
      compare("get" + arguments, () -> pier.get(language, global, field, more), ofModel);
    }
  }

  private static void askGlobals() {
    int language = index(3);
    int global = global();
    int other = global();
    compare("kindOf(" + language + ", " + global + ")", () -> pier.kindOf(language, global), () -> {
      needGlobal(language, global);
      return model.globals[language][global].kind;
    });
    compare("numberOf(" + language + ", " + global + ")", () -> pier.numberOf(language, global), () -> {
      needGlobal(language, global);
      Val v = model.globals[language][global];
      need(Model.isNumber(v) || v.kind == 't', new NoSuchElementException());
      return Model.asDouble(v);
    });
    compare("equal(" + language + ", " + global + ", " + other + ")", () -> pier.equal(language, global, other), () -> {
      needGlobal(language, global);
      needGlobal(language, other);
      return Model.equal(model.globals[language][global], model.globals[language][other]);
    });
  }

  private static void askHeap() {
    compare("made()", () -> pier.made(), () -> model.made);
    compare("freed()", () -> pier.freed(), () -> model.made - model.alive.size());
    int language = index(3);
    compare("things(" + language + ")", () -> pier.things(language), () -> {
      need(in(language, 3), outside());
      return model.alive.values().stream().filter(t -> t.language == language).count();
    });
    for (int thing = draw(6) == 0 ? -1 : Math.max(0, model.made - 8); thing <= model.made; thing++) {
      askThing(thing);
    }
    compare("freedShare()", () -> pier.freedShare(), () -> {
      need(model.made > 0, new ArithmeticException());
      return (float) (model.made - model.alive.size()) / (float) model.made;
    });
    compare("isSound()", () -> pier.isSound(), () -> true);
  }

  private static void askThing(int thing) {
    compare("isThere(" + thing + ")", () -> pier.isThere(thing), () -> {
      need(in(thing, model.made), outside());
      return model.alive.containsKey(thing);
    });
    compare("count(" + thing + ")", () -> pier.count(thing), () -> {
      need(in(thing, model.made), outside());
      need(model.alive.containsKey(thing), new NoSuchElementException());
      return model.count(thing);
    });
    compare("isHeld(" + thing + ")", () -> pier.isHeld(thing), () -> {
      need(in(thing, model.made), outside());
      need(model.alive.containsKey(thing), new NoSuchElementException());
      return model.isHeld(thing);
    });
  }

  private static void collect() {
    if (draw(2) == 0) {
      compare("collect()", () -> pier.collect(), () -> model.collect(false));
    } else {
      compare("collectRings()", () -> pier.collectRings(), () -> model.collect(true));
    }
  }

  private static void prepare() {
    int functions = 2 + draw(5);
    for (int i = 0; i < functions; i++) {
      addFunction();
    }
    int phrases = draw(5 * functions);
    for (int i = 0; i < phrases; i++) {
      phrase();
    }
    for (int i = 0; i < functions; i++) {
      if (draw(3) == 0) {
        guard();
      }
    }
  }

  /** Mostly calls about things, which need globals that refer to some. */
  private static void callOfHeap() {
    int drawn = draw(100);
    if (drawn < 22) {
      setOrMake(false);
    } else if (drawn < 26) {
      setOrMake(true);
    } else if (drawn < 50) {
      pass();
    } else if (drawn < 85) {
      putOrGet();
    } else if (drawn < 88) {
      askGlobals();
    } else if (drawn < 94) {
      askHeap();
    } else if (drawn < 97) {
      collect();
    } else {
      run();
    }
  }

  private static void callSome() {
    int drawn = draw(100);
    if (drawn < 2) {
      addFunction();
    } else if (drawn < 6) {
      code();
    } else if (drawn < 18) {
      phrase();
    } else if (drawn < 22) {
      guard();
    } else if (drawn < 60) {
      run();
    } else if (drawn < 70) {
      setOrMake(draw(2) == 0);
    } else if (drawn < 78) {
      pass();
    } else if (drawn < 88) {
      putOrGet();
    } else if (drawn < 92) {
      askGlobals();
    } else if (drawn < 96) {
      askHeap();
    } else if (drawn < 98) {
      collect();
    } else {
      results();
    }
  }

  public static void main(String[] args) {
    int sessions = args.length > 0 ? Integer.parseInt(args[0]) : SESSIONS;
    for (int session = 1; session <= sessions && wrong == 0; session++) {
      seed = session * 7919L;
      pier = new PolyglotPier();
      model = new Model();
      told.clear();
      prepare();
      while (told.size() < CALLS && wrong == 0) {
        if (session % 2 == 0) {
          callSome();
        } else {
          callOfHeap();
        }
      }
      askHeap();
    }
    System.out.println(wrong == 0 ? "both programs answer alike" : "the programs answer unlike");
    if (wrong != 0) {
      System.exit(1);
    }
  }
}
