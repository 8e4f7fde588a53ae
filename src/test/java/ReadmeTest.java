import java.lang.reflect.InvocationTargetException;
import java.lang.reflect.Method;
import java.lang.reflect.Modifier;
import java.nio.file.Files;
import java.nio.file.Path;
import java.util.HashMap;
import java.util.Map;
import java.util.regex.Matcher;
import java.util.regex.Pattern;

/** What README.md says of the class is so: each line of its examples is called, and its table has every call. */
public final class ReadmeTest {
  private static final String BEGIN = "CountedHeap heap = new CountedHeap();";
  private static final Pattern LINE =
      Pattern.compile("(?:int (\\w+) = )?heap\\.(\\w+)\\((.*?)\\); +// (-?\\d+|true|false|throws \\w+)(?::.*)?");
  private static final Map<String, Method> FACE = new HashMap<>();
  private static int calls = 0;
  private static int wrong = 0;

  public static void main(String[] args) throws Exception {
    String readme = Files.readString(Path.of("README.md"));
    for (Method m : CountedHeap.class.getDeclaredMethods()) if (Modifier.isPublic(m.getModifiers())) FACE.put(m.getName(), m);
    for (String name : FACE.keySet()) if (!tabled(readme, FACE.get(name))) fails("the table has no " + name);
    Matcher blocks = Pattern.compile("```java\n(.*?)```", Pattern.DOTALL).matcher(readme);
    int examples = 0;
    for (; blocks.find(); examples++) runs(blocks.group(1).split("\n"));
    if (examples == 0) fails("there is no example");
    System.out.println("ReadmeTest: " + examples + " examples, " + calls + " calls, " + wrong + " wrong");
    if (wrong != 0) System.exit(1);
  }

  private static void fails(String why) { wrong++; System.out.println(why); }

  /** In a row of the table, with as many names as it takes numbers. */
  private static boolean tabled(String readme, Method m) {
    Matcher call = Pattern.compile("`" + m.getName() + "\\(([^)]*)\\)`").matcher(readme);
    while (call.find()) {
      int names = call.group(1).isEmpty() ? 0 : call.group(1).split(", ").length;
      if (names == m.getParameterCount()) return true;
    }
    return false;
  }

  private static void runs(String[] lines) throws Exception {
    CountedHeap heap = new CountedHeap();
    Map<String, Integer> names = new HashMap<>();
    names.put("CountedHeap.NONE", CountedHeap.NONE);
    if (!lines[0].equals(BEGIN)) fails("an example does not begin with a new object: " + lines[0]);
    for (int n = 1; n < lines.length; n++) {
      Matcher line = LINE.matcher(lines[n]);
      if (!line.matches() || !FACE.containsKey(line.group(2))) { fails("this is no call: " + lines[n]); continue; }
      String got = answers(heap, FACE.get(line.group(2)), line.group(3), names);
      if (!got.equals(line.group(4))) fails(lines[n] + " .. answered " + got);
      if (line.group(1) != null) names.put(line.group(1), Integer.valueOf(got));
    }
  }

  private static String answers(CountedHeap heap, Method call, String numbers, Map<String, Integer> names) throws Exception {
    String[] texts = numbers.isEmpty() ? new String[0] : numbers.split(", ");
    Object[] given = new Object[texts.length];
    for (int i = 0; i < texts.length; i++) given[i] = number(texts[i], names);
    calls++;
    try { return String.valueOf(call.invoke(heap, given)); }
    catch (InvocationTargetException e) { return "throws " + e.getCause().getClass().getSimpleName(); }
  }

  /** A number, a name, or signs that are put together, as in 'a' << 24 | 'b' << 16. */
  private static int number(String text, Map<String, Integer> names) {
    if (names.containsKey(text)) return names.get(text);
    if (!text.startsWith("'")) return Integer.parseInt(text);
    int sum = 0;
    for (String part : text.split(" \\| ")) {
      String[] shifted = part.split(" << ");
      sum |= shifted[0].charAt(1) << (shifted.length > 1 ? Integer.parseInt(shifted[1]) : 0);
    }
    return sum;
  }
}
