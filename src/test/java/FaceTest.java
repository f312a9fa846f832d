import java.io.IOException;
import java.lang.reflect.Constructor;
import java.lang.reflect.Field;
import java.lang.reflect.Method;
import java.lang.reflect.Modifier;
import java.nio.file.Files;
import java.nio.file.Path;
import java.util.ArrayList;
import java.util.Arrays;
import java.util.List;
import java.util.TreeSet;

/** Checks the face of PolyglotPier, and those rules of LANGUAGE.md that can be seen in the text or by reflection. */
public final class FaceTest {
  private static final String[] FACE = {
    "int addFunction(int,int) throws IllegalArgumentException, IllegalStateException",
    "int code(int,char,int) throws IndexOutOfBoundsException, IllegalArgumentException, IllegalStateException",
    "boolean guard(int,int,int,int,boolean) throws IndexOutOfBoundsException, IllegalArgumentException",
    "char run(int,int,int) throws IndexOutOfBoundsException",
    "char resultKind() throws NoSuchElementException",
    "double resultNumber() throws NoSuchElementException",
    "long resultWhole() throws NoSuchElementException",
    "int trace() throws NoSuchElementException",
    "int traceAt(int) throws NoSuchElementException, IndexOutOfBoundsException",
    "int thrownIn() throws NoSuchElementException",
    "int set(int,int,int) throws IndexOutOfBoundsException",
    "int make(int,int) throws IndexOutOfBoundsException, IllegalStateException",
    "int pass(int,int,int,int) throws IndexOutOfBoundsException",
    "int put(int,int,int,int) throws IndexOutOfBoundsException, UnsupportedOperationException",
    "int get(int,int,int,int) throws IndexOutOfBoundsException, UnsupportedOperationException",
    "char kindOf(int,int) throws IndexOutOfBoundsException",
    "double numberOf(int,int) throws IndexOutOfBoundsException, NoSuchElementException",
    "boolean equal(int,int,int) throws IndexOutOfBoundsException",
    "int made()",
    "int things(int) throws IndexOutOfBoundsException",
    "boolean isThere(int) throws IndexOutOfBoundsException",
    "int count(int) throws IndexOutOfBoundsException, NoSuchElementException",
    "boolean isHeld(int) throws IndexOutOfBoundsException, NoSuchElementException",
    "int collect()",
    "int collectRings()",
    "int freed()",
    "long crossings()",
    "float freedShare() throws ArithmeticException",
    "boolean isSound()",
  };
  private static final String[] FORBIDDEN = {
    "->", "::", "Double.", "Float.", "Exact(", "_VALUE", "System.", "catch", "finally", "assert ", "synchronized", "static {",
    "Object", "toString", "hashCode", ".equals(", "%n", "new int[][", "Thread", "native", "import java.util.*"
  };
  private static final int LONGEST_METHOD = 60;
  private static final int MOST_FIELDS = 20;
  private static final int MOST_CLASSES = 12;
  private static final int MOST_PARAMETERS = 7;

  private static int wrong = 0;

  private static void need(boolean good, String otherwise) {
    if (!good) {
      wrong++;
      System.out.println(otherwise);
    }
  }

  private static String told(Method method) {
    List<String> parameters = new ArrayList<>();
    for (Class<?> type : method.getParameterTypes()) {
      parameters.add(type.getSimpleName());
    }
    List<String> exceptions = new ArrayList<>();
    for (Class<?> type : method.getExceptionTypes()) {
      exceptions.add(type.getSimpleName());
    }
    return method.getReturnType().getSimpleName() + " " + method.getName() + "(" + String.join(",", parameters) + ")"
        + (exceptions.isEmpty() ? "" : " throws " + String.join(", ", exceptions));
  }

  private static void face() {
    Class<?> pier = PolyglotPier.class;
    need(Modifier.isFinal(pier.getModifiers()) && Modifier.isPublic(pier.getModifiers()), "the class is public and final");
    TreeSet<String> open = new TreeSet<>();
    TreeSet<String> openNames = new TreeSet<>();
    for (Method method : pier.getDeclaredMethods()) {
      if (Modifier.isPublic(method.getModifiers())) {
        open.add(told(method));
        openNames.add(method.getName());
      } else {
        need(Modifier.isPrivate(method.getModifiers()) || method.isSynthetic(), "not private: " + method);
      }
    }
    need(open.equals(new TreeSet<>(Arrays.asList(FACE))), "the face is " + open);
    for (Field field : pier.getDeclaredFields()) {
      need(Modifier.isPrivate(field.getModifiers()), "not private: " + field);
    }
    Constructor<?>[] constructors = pier.getDeclaredConstructors();
    need(constructors.length == 1 && constructors[0].getParameterCount() == 0
        && Modifier.isPublic(constructors[0].getModifiers()), "one public constructor");
    Class<?>[] inside = pier.getDeclaredClasses();
    need(inside.length + 1 <= MOST_CLASSES, "there are too many classes");
    for (Class<?> type : inside) {
      need(Modifier.isStatic(type.getModifiers()) && !Modifier.isPublic(type.getModifiers()), "not static: " + type);
      inside(type, openNames);
    }
    inside(pier, new TreeSet<>());
  }

  private static void inside(Class<?> type, TreeSet<String> openNames) {
    int fields = 0;
    for (Field field : type.getDeclaredFields()) {
      boolean isStatic = Modifier.isStatic(field.getModifiers());
      fields += isStatic ? 0 : 1;
      need(!isStatic || Modifier.isFinal(field.getModifiers()), "static and not final: " + field);
    }
    need(fields <= MOST_FIELDS, "too many fields in " + type);
    for (Method method : type.getDeclaredMethods()) {
      need(!openNames.contains(method.getName()), "has the name of one of the face: " + method);
      need(method.getParameterCount() <= MOST_PARAMETERS, "too many parameters: " + method);
    }
  }

  /** No operation on doubles may answer NaN, so none may lie where it would be reckoned with. */
  private static void noNaNInside() throws ReflectiveOperationException {
    String[] programs = {
      "n0 n0 /", "n1 n0 / n0 *", "n0 n1 n0 / *", "n1 n0 / n1 n0 / -", "n1 n0 / n-1 n0 / +", "n-1 n0 / n1 n0 / +",
      "n1 n0 / n1 n0 / /", "n-1 n0 / n-1 n0 / -", "n0 n0 / n1 +", "n1 n0 n0 / *", "n-1 n0 / n0 *",
    };
    for (String program : programs) {
      PolyglotPier x = new PolyglotPier();
      x.addFunction(0, 0);
      for (String token : (program + " r").split(" ")) {
        x.code(0, token.charAt(0), token.length() > 1 ? Integer.parseInt(token.substring(1)) : 0);
      }
      x.run(0, 0, 0);
      need(Double.isNaN(x.resultNumber()), program + " is told as a number");
      Object result = part(part(x, "machine"), "result");
      need(!Double.isNaN((Double) part(result, "real")), program + " is reckoned to NaN");
    }
  }

  private static Object part(Object whole, String name) throws ReflectiveOperationException {
    Field field = whole.getClass().getDeclaredField(name);
    field.setAccessible(true);
    return field.get(whole);
  }

  private static void text() throws IOException {
    List<String> lines = Files.readAllLines(Path.of("src/main/java/PolyglotPier.java"));
    String opened = "";
    int since = 0;
    for (int i = 0; i < lines.size(); i++) {
      String line = lines.get(i);
      String code = line.replaceAll("//.*", "").replaceAll("^\\s*/?\\*.*", "");
      for (String word : FORBIDDEN) {
        need(!code.contains(word), "line " + (i + 1) + " has " + word);
      }
      need(!line.startsWith("import ") || line.equals("import java.util.NoSuchElementException;"), "line " + (i + 1));
      need(line.chars().allMatch(c -> c >= 32 && c < 127), "line " + (i + 1) + " has other signs");
      if (line.matches("  (  )?[a-zA-Z].*\\(.*")) {
        opened = line;
        since = i;
      }
      if (line.matches("  (  )?}")) {
        need(opened.isEmpty() || i - since < LONGEST_METHOD, "too long: " + opened);
        opened = "";
      }
    }
  }

  public static void main(String[] args) throws IOException, ReflectiveOperationException {
    face();
    noNaNInside();
    text();
    System.out.println(wrong == 0 ? "the face is as it should be" : wrong + " things are not as they should be");
    if (wrong != 0) {
      System.exit(1);
    }
  }
}
