import java.lang.reflect.Method;
import java.nio.file.Files;
import java.nio.file.Path;
import java.util.regex.Matcher;
import java.util.regex.Pattern;

/** The calls that README.md shows answer as it says; each line there is a call, a heading, or the making of the object. */
public final class ReadmeTest {
  private static final Pattern BLOCK = Pattern.compile("(?s)```java\n(.*?)```");
  private static final Pattern CALL = Pattern.compile("x\\.(\\w+)\\((.*?)\\); +// (-?\\d+)(: .*)?");
  private static final String MADE = "SlicedRows x = new SlicedRows();";
  private static final Due due = new Due("ReadmeTest");

  public static void main(String[] args) throws Exception {
    Matcher block = BLOCK.matcher(Files.readString(Path.of("README.md")));
    while (block.find()) {
      SlicedRows x = new SlicedRows();
      for (String line : block.group(1).split("\n")) look(x, line);
    }
    due.end();
  }

  private static void look(SlicedRows x, String line) throws Exception {
    if (line.equals(MADE) || line.startsWith("//")) return;
    Matcher call = CALL.matcher(line);
    boolean isCall = call.matches();
    due.holds("README.md tells a call and its answer in: " + line, isCall);
    if (isCall) due.is(line, answer(x, call.group(1), call.group(2)), Long.parseLong(call.group(3)));
  }

  private static long answer(SlicedRows x, String name, String told) throws Exception {
    String[] words = told.isEmpty() ? new String[0] : told.split(", ");
    for (Method method : SlicedRows.class.getMethods()) {
      if (!method.getName().equals(name) || method.getParameterCount() != words.length) continue;
      Object[] values = new Object[words.length];
      for (int i = 0; i < words.length; i++) values[i] = value(method.getParameterTypes()[i], words[i]);
      return ((Number) method.invoke(x, values)).longValue();
    }
    throw new NoSuchMethodException(name + "(" + told + ")");
  }

  private static Object value(Class<?> type, String word) {
    if (type == boolean.class) return word.equals("true");
    if (type == long.class) return Long.decode(word.replace("L", ""));
    return Integer.valueOf(word);
  }
}
