import java.io.IOException;
import java.nio.file.Files;
import java.nio.file.Path;
import java.util.ArrayList;
import java.util.List;

/** The examples of README.md answer what it says, and stand here as they stand there. */
public final class ReadmeTest extends Checks {
  private static void examples() {
    PolyglotPier pier = new PolyglotPier();
    int half = pier.addFunction(0, 1);      // a function of Ash with one parameter
    pier.code(half, 'l', 0);                // pushes the argument
    pier.code(half, 'n', 2);                // pushes 2
    pier.code(half, '/', 0);                // divides
    pier.code(half, 'r', 0);                // returns
    char outcome = pier.run(half, 7, 0);    // 'r': it returned
    double result = pier.resultNumber();    // 3.5
    due("half of 7", outcome + " " + result, "r 3.5");

    int caller = pier.addFunction(2, 1);    // a function of Cedar, which has whole numbers only
    pier.code(caller, 'l', 0);
    pier.code(caller, 'c', half);           // calls the function of Ash
    pier.code(caller, 'r', 0);
    outcome = pier.run(caller, 7, 0);       // 'x': a throw left it
    long fault = pier.resultWhole();        // 4: what cannot cross, here 3.5
    int where = pier.traceAt(0);            // 101: function 1, place 1
    due("half of 7 in Cedar", outcome + " " + fault + " " + where, "x 4 101");
    boolean had = pier.guard(caller, 1, 1, 2, true);
    outcome = pier.run(caller, 7, 0);       // 'r': place 2 took the throw, and returned its number
    due("half of 7, guarded", had + " " + outcome + " " + pier.resultWhole(), "false r 4");

    int thing = pier.make(0, 0);            // a thing of Ash in global 0 of Ash
    pier.pass(0, 0, 1, 3);                  // a reference to it in global 3 of Birch
    boolean proxied = pier.isHeld(thing);   // true: there is a proxy for it
    due("the proxy", proxied, true);
    pier.set(0, 0, 5);                      // global 0 of Ash is a number now
    pier.set(1, 3, 5);                      // and global 3 of Birch; the proxy stays until a collection
    due("the proxy behind its references", pier.isHeld(thing), true);
    int freed = pier.collect();             // 1
    due("the collection", freed, 1);
  }

  /** The lines of the page's blocks of Java, without the space around them. */
  private static List<String> shown() throws IOException {
    List<String> lines = new ArrayList<>();
    boolean inside = false;
    for (String line : Files.readAllLines(Path.of("README.md"))) {
      boolean isFence = line.startsWith("```");
      if (inside && !isFence) {
        lines.add(line.trim());
      }
      inside = isFence ? line.equals("```java") : inside;
    }
    return lines;
  }

  private static void standsHere() throws IOException {
    int next = 0;
    List<String> shown = shown();
    due("README.md has examples", !shown.isEmpty(), true);
    for (String line : Files.readAllLines(Path.of("src/test/java/ReadmeTest.java"))) {
      next += next < shown.size() && line.trim().equals(shown.get(next)) ? 1 : 0;
    }
    due("the first line of README.md that does not stand here", next < shown.size() ? shown.get(next) : "none", "none");
  }

  public static void main(String[] args) throws IOException {
    examples();
    standsHere();
    end();
  }
}
