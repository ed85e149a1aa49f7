import java.io.IOException;
import java.lang.reflect.Field;
import java.nio.file.Files;
import java.nio.file.Path;
import java.util.ArrayList;
import java.util.Arrays;
import java.util.List;
import java.util.Map;
import java.util.TreeMap;
import java.util.regex.Matcher;
import java.util.regex.Pattern;
import java.util.stream.Stream;

/** README.md: its example answers as it says, and the constants, calls and tests that it names are those there are. */
public final class ReadmeTest {
  private static final Check CHECK = new Check();
  private static final Pattern FED = Pattern.compile("for \\(char c : \"([^\"]*)\"\\.toCharArray\\(\\)\\) x\\.feed\\(c\\);");
  private static final Pattern CALL = Pattern.compile("x\\.(\\w+)\\(([-\\d, ]*)\\); +// (-?\\d+|[A-Z]+): .+");
  private static final Pattern CONSTANT = Pattern.compile("\\| `([A-Z]+)` \\| (-\\d+) \\| .+ \\|");

  public static void main(String[] args) throws IOException {
    List<String> lines = Files.readAllLines(Path.of("README.md"));
    Map<String, Integer> constants = constants();
    example(lines, constants);
    constantsTold(lines, constants);
    named(String.join("\n", lines));
    CHECK.end();
  }

  private static void is(String what, boolean holds) {
    CHECK.due(what, holds ? 1 : 0, 1);
  }

  private static Map<String, Integer> constants() {
    Map<String, Integer> constants = new TreeMap<>();
    for (Field field : NoonPaces.class.getFields()) {
      try {
        constants.put(field.getName(), field.getInt(null));
      } catch (IllegalAccessException e) {
        throw new IllegalStateException(e);
      }
    }
    return constants;
  }

  /** Makes the calls of the example, line by line; a line that is none of the sorts known here is a fault. */
  private static void example(List<String> lines, Map<String, Integer> constants) {
    int start = lines.indexOf("```java");
    List<String> rest = lines.subList(start + 1, lines.size());
    List<String> code = new ArrayList<>(rest.subList(0, rest.indexOf("```")));
    is("one example", start >= 0 && !rest.contains("```java"));
    is("on a new object", code.remove(0).equals("NoonPaces x = new NoonPaces();"));
    Edges x = Edges.after(CHECK, "count 0 = 0");
    for (String line : code) {
      Matcher fed = FED.matcher(line);
      Matcher call = CALL.matcher(line);
      if (fed.matches()) {
        for (char c : fed.group(1).toCharArray()) x.call("feed", c);
      } else if (call.matches()) {
        String told = call.group(3);
        long due = constants.containsKey(told) ? constants.get(told) : Long.parseLong(told);
        CHECK.due("the example: " + line, x.call(call.group(1), numbers(call.group(2))), due);
      } else {
        is("the example: " + line, line.isEmpty());
      }
    }
    for (String name : constants.keySet()) {
      // a full tape would take a hundred lines
      if (!name.equals("FULL")) is("the example answers " + name, String.join("\n", code).contains("// " + name + ": "));
    }
  }

  private static long[] numbers(String list) {
    if (list.isEmpty()) return new long[0];
    return Arrays.stream(list.split(", ")).mapToLong(Long::parseLong).toArray();
  }

  private static void constantsTold(List<String> lines, Map<String, Integer> constants) {
    Map<String, Integer> told = new TreeMap<>();
    for (String line : lines) {
      Matcher m = CONSTANT.matcher(line);
      if (m.matches()) told.put(m.group(1), Integer.parseInt(m.group(2)));
    }
    is("the constants are " + constants + ", told are " + told, told.equals(constants));
  }

  private static void named(String text) throws IOException {
    for (String call : Caller.FACE) {
      String name = Caller.nameOf(call);
      is("names " + name, text.contains("`" + name + "`"));
    }
    is("names .ci/run", text.contains("    .ci/run\n") && Files.isExecutable(Path.of(".ci/run")));
    try (Stream<Path> files = Files.list(Path.of("src/test/java"))) {
      for (Path file : files.filter(f -> f.toString().endsWith("Test.java")).toList()) {
        String name = file.getFileName().toString().replace(".java", "");
        is("names " + name, text.contains("`" + name + "`"));
      }
    }
  }
}
