import java.lang.reflect.Method;
import java.lang.reflect.Modifier;
import java.nio.file.Files;
import java.nio.file.Path;
import java.util.regex.Matcher;
import java.util.regex.Pattern;

/** The example of README.md answers what stands behind each call, and the page names every call with as many values. */
public final class ReadmeTest {
  private static final Pattern CALL = Pattern.compile("(?m)^rows\\.(\\w+)\\((.*)\\); +// (-?\\d+): .*$");
  private static final Due due = new Due();

  public static void main(String[] args) throws Exception {
    String page = Files.readString(Path.of("README.md"));
    example(page);
    names(page);
    due.end();
  }

  private static void example(String page) throws ReflectiveOperationException {
    int begin = page.indexOf("```java\n");
    int end = page.indexOf("```\n", begin + 1);
    due.isTrue("there is an example", begin >= 0 && end > begin);
    String code = page.substring(begin, end);
    GraveRows rows = new GraveRows();
    int calls = 0;
    Matcher m = CALL.matcher(code);
    while (m.find()) {
      calls++;
      due.is(m.group(), answer(rows, m.group(1), m.group(2)), Long.parseLong(m.group(3)));
    }
    due.is("each line has its answer", calls, code.lines().filter(line -> line.startsWith("rows.")).count());
    due.isTrue("there are calls", calls > 0);
  }

  private static long answer(GraveRows rows, String name, String values) throws ReflectiveOperationException {
    String[] texts = values.isEmpty() ? new String[0] : values.split(", ");
    Object[] read = new Object[texts.length];
    for (int i = 0; i < texts.length; i++) {
      read[i] = value(texts[i]);
    }
    return ((Number) named(name).invoke(rows, read)).longValue();
  }

  private static Object value(String text) {
    if (text.equals("true") || text.equals("false")) {
      return text.equals("true");
    }
    return text.startsWith("0b") ? Integer.parseInt(text.substring(2), 2) : Integer.parseInt(text);
  }

  private static Method named(String name) {
    for (Method m : GraveRows.class.getDeclaredMethods()) {
      if (Modifier.isPublic(m.getModifiers()) && m.getName().equals(name)) {
        return m;
      }
    }
    throw new IllegalArgumentException("no call " + name);
  }

  private static void names(String page) {
    for (Method m : GraveRows.class.getDeclaredMethods()) {
      if (Modifier.isPublic(m.getModifiers())) {
        String values = "\\w+" + ", \\w+".repeat(Math.max(0, m.getParameterCount() - 1));
        String call = "`" + m.getName() + "\\(" + (m.getParameterCount() == 0 ? "" : values) + "\\)`";
        due.isTrue("the page names " + m.getName(), Pattern.compile(call).matcher(page).find());
      }
    }
  }
}
