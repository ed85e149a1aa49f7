import java.io.IOException;
import java.lang.reflect.Constructor;
import java.lang.reflect.Field;
import java.lang.reflect.Method;
import java.lang.reflect.Modifier;
import java.nio.file.Files;
import java.nio.file.Path;
import java.util.List;
import java.util.Map;
import java.util.Set;
import java.util.TreeMap;
import java.util.TreeSet;
import java.util.regex.Matcher;
import java.util.regex.Pattern;

/** The face, and what of LANGUAGE.md a look at the class and its text can tell. */
public final class LanguageTest {
  private static final Check CHECK = new Check();
  private static final String FACE = "as(int,int) barred() build(int,int) cell(int) copy(int,int,int,int,int) count(int) "
      + "crime(int,int,int) deed(int,int) drawn(int,int,int) drop(int) due(int,int,int,int,int) ends(int,int) feed(int) "
      + "film(int,int,int,int,int) guard(int,int) image(int) item(int,int,int,long) judge(int,int) later(int,int) law(int,int) "
      + "look(int,int) meet(int,int,int) noon() odds(int,int,int) on(int) order(int) person(int,int) restore(int) "
      + "sheet(int,int,int) sides(int,int) sorts(int,int,int,int,int) steps(int,int) town() undo() who(int,int,int,int)";

  public static void main(String[] args) throws IOException {
    face();
    classes();
    text();
    calls();
    CHECK.end();
  }

  private static void is(String rule, boolean holds) {
    CHECK.due(rule, holds ? 1 : 0, 1);
  }

  private static void face() {
    Class<?> main = NoonPaces.class;
    is("1 public and final", main.getModifiers() == (Modifier.PUBLIC | Modifier.FINAL));
    Set<String> told = new TreeSet<>();
    Set<String> names = new TreeSet<>();
    for (Method m : main.getDeclaredMethods()) {
      if (Modifier.isPrivate(m.getModifiers())) continue;
      is("1 public: " + m, m.getModifiers() == Modifier.PUBLIC);
      is("1 answers " + m, m.getReturnType() == (m.getName().equals("item") ? long.class : int.class));
      told.add(m.toString().replaceAll(".*NoonPaces\\.", ""));
      names.add(m.getName());
    }
    is("1 the face " + told, String.join(" ", told).equals(FACE));
    for (Constructor<?> c : main.getDeclaredConstructors()) {
      is("1 constructor " + c, c.getModifiers() == Modifier.PUBLIC && c.getParameterCount() == 0);
    }
    Set<String> constants = new TreeSet<>();
    for (Field f : main.getDeclaredFields()) {
      if (Modifier.isPrivate(f.getModifiers())) continue;
      is("1 constant " + f, f.getModifiers() == (Modifier.PUBLIC | Modifier.STATIC | Modifier.FINAL) && f.getType() == int.class);
      constants.add(f.getName());
    }
    is("1 constants " + constants, constants.equals(Set.of("BAD", "NOT", "FULL", "NONE", "NULL", "CAST", "INDEX", "SIZE")));
    for (Class<?> c : all()) {
      for (Method m : c.getDeclaredMethods()) {
        is("1 no other method bears its name: " + m, c == main && Modifier.isPublic(m.getModifiers()) || !names.contains(m.getName()));
      }
    }
  }

  private static List<Class<?>> all() {
    List<Class<?>> all = new java.util.ArrayList<>(List.of(NoonPaces.class.getDeclaredClasses()));
    all.add(NoonPaces.class);
    return all;
  }

  private static void classes() {
    is("11 at most twelve classes", all().size() <= 12);
    for (Class<?> c : all()) {
      is("2 static " + c, c == NoonPaces.class || Modifier.isStatic(c.getModifiers()));
      is("2 nothing deeper in " + c, c == NoonPaces.class || c.getDeclaredClasses().length == 0);
      int fields = 0;
      for (Field f : c.getDeclaredFields()) {
        if (Modifier.isStatic(f.getModifiers())) is("5 final " + f, Modifier.isFinal(f.getModifiers()));
        else fields++;
      }
      is("11 at most twenty fields in " + c, fields <= 20);
      for (Method m : c.getDeclaredMethods()) {
        is("2 no lambda " + m, !m.isSynthetic());
        is("11 at most seven parameters " + m, m.getParameterCount() <= 7);
      }
    }
  }

  private static void text() throws IOException {
    List<String> lines = Files.readAllLines(Path.of("src/main/java/NoonPaces.java"));
    Pattern ruledOut = Pattern.compile("\\b(throw|throws|try|catch|synchronized|assert|import|package|double|float|"
        + "equals|hashCode|toString|\\w+Exact)\\b|->|::|[^\\x00-\\x7e]");
    int start = -1;
    for (int k = 0; k < lines.size(); k++) {
      String code = lines.get(k).replaceAll("/\\*\\*.*\\*/|//.*", "");
      Matcher m = ruledOut.matcher(code);
      is("line " + (k + 1) + ": " + lines.get(k), !m.find());
      if (code.matches(" {2,4}[a-zA-Z].*\\) \\{")) start = k;
      if (code.matches(" {2,4}\\}")) is("11 short, to line " + (k + 1), start < 0 || k - start < 60);
    }
  }

  /** Which method names each one calls, by the text; methods of one name are taken together. */
  private static Map<String, Set<String>> callsByText() throws IOException {
    Map<String, Set<String>> calls = new TreeMap<>();
    Pattern head = Pattern.compile(" {2,4}(?:(?:public|private|static) )*(?:int|long|boolean|void) (\\w+)\\(.*\\) \\{");
    Pattern call = Pattern.compile("(?<!new )\\b([a-z]\\w*)\\(");
    String in = null;
    for (String line : Files.readAllLines(Path.of("src/main/java/NoonPaces.java"))) {
      Matcher m = head.matcher(line);
      if (m.matches()) {
        in = m.group(1);
        calls.putIfAbsent(in, new TreeSet<>());
      } else if (line.matches(" {2,4}\\}")) {
        in = null;
      } else if (in != null) {
        Matcher c = call.matcher(line.replaceAll("//.*", ""));
        while (c.find()) calls.get(in).add(c.group(1));
      }
    }
    return calls;
  }

  private static void calls() throws IOException {
    Map<String, Set<String>> calls = callsByText();
    is("the methods are found", calls.size() > 100);
    for (String name : calls.keySet()) {
      if (calls.get(name).contains(name)) is("8 who calls himself is static: " + name, name.equals("play"));
      calls.get(name).remove(name);
    }
    for (String name : calls.keySet()) {
      int depth = depth(calls, name, 0);
      is("11 calls at most eight deep: " + name + " " + depth, depth <= 8);
    }
  }

  /** How deep calls go from one on, itself counted; methods that call one another would go beyond any bound. */
  private static int depth(Map<String, Set<String>> calls, String name, int above) {
    int deepest = 0;
    for (String next : calls.get(name)) {
      if (calls.containsKey(next) && above < 20) deepest = Math.max(deepest, depth(calls, next, above + 1));
    }
    return deepest + 1;
  }
}
