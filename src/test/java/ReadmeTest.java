import java.lang.reflect.Method;
import java.lang.reflect.Modifier;
import java.nio.file.Files;
import java.nio.file.Path;
import java.util.List;
import java.util.regex.Matcher;
import java.util.regex.Pattern;

/** The examples of README.md: each call answers what stands behind it there; each public call is named. */
public final class ReadmeTest {
  private static final Path README = Path.of("README.md");
  private static final Pattern NEW = Pattern.compile("DeniedOfEachOther x = new DeniedOfEachOther\\(\\);");
  private static final Pattern LETTERS = Pattern.compile("for \\(char c : \"([^\"]*)\"\\.toCharArray\\(\\)\\) x\\.letter\\(c\\);");
  private static final Pattern CALL = Pattern.compile("x\\.(\\w+)\\(([-\\d, ]*)\\); *// (-?\\d+): .*");
  /** Fewer would mean that the examples are not found any more. */
  private static final int LEAST_CALLS = 25;

  private static int wrong = 0;
  private static int called = 0;

  public static void main(String[] args) throws Exception {
    List<String> lines = Files.readAllLines(README);
    examples(lines);
    must(called >= LEAST_CALLS, "only " + called + " calls are found in the examples");
    names(String.join("\n", lines));
    System.out.println(wrong == 0 ? "README.md tells " + called + " answers rightly" : wrong + " faults in README.md");
    if (wrong != 0) System.exit(1);
  }

  private static void must(boolean holds, String what) {
    if (holds) return;
    wrong++;
    System.out.println("README.md: " + what);
  }

  private static void examples(List<String> lines) throws Exception {
    DeniedOfEachOther x = null;
    boolean inside = false;
    for (String line : lines) {
      if (line.startsWith("```")) {
        inside = line.equals("```java");
        x = null;
      } else if (inside && NEW.matcher(line).matches()) {
        x = new DeniedOfEachOther();
      } else if (inside) {
        must(x != null, "no object is made ahead of: " + line);
        if (x != null) example(x, line);
      }
    }
  }

  private static void example(DeniedOfEachOther x, String line) throws Exception {
    Matcher letters = LETTERS.matcher(line);
    Matcher call = CALL.matcher(line);
    if (letters.matches()) {
      for (char c : letters.group(1).toCharArray()) must(x.letter(c) > 0, "a letter is refused: " + line);
    } else if (call.matches()) {
      called++;
      long got = answer(x, call.group(1), call.group(2));
      must(got == Long.parseLong(call.group(3)), line + " -- answered " + got);
    } else {
      must(false, "neither an object, nor letters, nor a call with its answer: " + line);
    }
  }

  private static long answer(DeniedOfEachOther x, String name, String numbers) throws Exception {
    String[] told = numbers.isEmpty() ? new String[0] : numbers.split(", *");
    Object[] values = new Object[told.length];
    Class<?>[] types = new Class<?>[told.length];
    for (int i = 0; i < told.length; i++) {
      values[i] = Integer.parseInt(told[i]);
      types[i] = int.class;
    }
    return ((Number) DeniedOfEachOther.class.getMethod(name, types).invoke(x, values)).longValue();
  }

  private static void names(String text) {
    for (Method m : DeniedOfEachOther.class.getDeclaredMethods()) {
      if (!Modifier.isPublic(m.getModifiers())) continue;
      must(text.contains("`" + m.getName() + "`"), "the call " + m.getName() + " is not named");
    }
  }
}
