import java.io.IOException;
import java.lang.reflect.Method;
import java.lang.reflect.Modifier;
import java.nio.file.Files;
import java.nio.file.Path;
import java.util.ArrayList;
import java.util.List;
import java.util.Set;
import java.util.TreeSet;
import java.util.regex.Matcher;
import java.util.regex.Pattern;

/** What README.md shows is what the class answers, and it shows every call of the face. */
public final class ReadmeTest {
  private static final Pattern CALL = Pattern.compile("x\\.(\\w+)\\(([^()]*)\\);");
  private static final Pattern ANSWERS = Pattern.compile("((?:-?\\d+|[A-Z_]+)(?:, (?:-?\\d+|[A-Z_]+))*).*");
  private static final String NEW_OBJECT = "ReadingConverter x = new ReadingConverter();";
  private static final int LAST_CALL = 512;

  private static final Set<String> shown = new TreeSet<>();
  private static ReadingConverter x = null;
  private static int calls = 0;
  private static int wrong = 0;

  private static void report(String what) {
    wrong++;
    System.out.println("README.md: " + what);
  }

  private static List<String> shownLines() throws IOException {
    List<String> lines = new ArrayList<>();
    boolean inside = false;
    for (String line : Files.readAllLines(Path.of("README.md"))) {
      if (line.startsWith("```")) {
        inside = line.equals("```java");
      } else if (inside && !line.isBlank()) {
        lines.add(line.trim());
      }
    }
    return lines;
  }

  private static int number(String word) throws ReflectiveOperationException {
    if (word.matches("'.'")) {
      return word.charAt(1);
    }
    if (word.matches("[A-Z_]+")) {
      return ReadingConverter.class.getField(word).getInt(null);
    }
    return Integer.parseInt(word);
  }

  private static int answer(String method, String inside) throws ReflectiveOperationException {
    String[] words = inside.isEmpty() ? new String[0] : inside.split(", ");
    Class<?>[] types = new Class<?>[words.length];
    Object[] arguments = new Object[words.length];
    for (int i = 0; i < words.length; i++) {
      types[i] = int.class;
      arguments[i] = number(words[i]);
    }
    shown.add(method);
    calls++;
    return (Integer) ReadingConverter.class.getMethod(method, types).invoke(x, arguments);
  }

  /** A line has calls, then a comment that begins with as many answers. */
  private static void compareLine(String line) throws ReflectiveOperationException {
    String[] sides = line.split("// ", 2);
    Matcher answers = ANSWERS.matcher(sides.length == 2 ? sides[1] : "");
    if (x == null || !answers.matches()) {
      report("no object, or no answer: " + line);
      return;
    }
    String[] wanted = answers.group(1).split(", ");
    Matcher call = CALL.matcher(sides[0]);
    int found = 0;
    while (call.find()) {
      int got = answer(call.group(1), call.group(2));
      if (found >= wanted.length || got != number(wanted[found])) {
        report(line + "\n    " + call.group() + " answered " + got);
      }
      found++;
    }
    if (found != wanted.length || !CALL.matcher(sides[0]).replaceAll("").isBlank()) {
      report("not as many calls as answers: " + line);
    }
  }

  private static void compareNames() {
    for (Method method : ReadingConverter.class.getDeclaredMethods()) {
      if (Modifier.isPublic(method.getModifiers()) && !shown.contains(method.getName())) {
        report("does not show " + method.getName());
      }
    }
  }

  public static void main(String[] args) throws IOException, ReflectiveOperationException {
    for (String line : shownLines()) {
      if (line.equals(NEW_OBJECT)) {
        x = new ReadingConverter();
        calls = 0;
      } else {
        compareLine(line);
      }
      if (calls > LAST_CALL) {
        report("more calls of one object than the document promises");
        break;
      }
    }
    compareNames();
    System.out.println(wrong == 0 ? "README.md shows what the class answers" : wrong + " lines of README.md are not as due");
    if (wrong != 0) {
      System.exit(1);
    }
  }
}
