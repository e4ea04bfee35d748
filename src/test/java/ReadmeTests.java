import java.io.IOException;
import java.nio.file.Files;
import java.nio.file.Path;
import java.util.TreeSet;
import java.util.regex.Matcher;
import java.util.regex.Pattern;

/** The examples of README.md answer what stands behind them, and every call of the face is used in one. */
public final class ReadmeTests {
  private static final Pattern NEW = Pattern.compile("ReachTrees x = new ReachTrees\\(\\);.*");
  private static final Pattern TEXT = Pattern.compile("for \\(char c : \"(.*)\"\\.toCharArray\\(\\)\\) x\\.write\\(c\\);");
  private static final Pattern CALL = Pattern.compile("x\\.(\\w+)\\(([^)]*)\\); +// (-?\\w+)(:.*)?");
  private static int wrong = 0;
  private static final TreeSet<String> used = new TreeSet<>();

  private static void report(String what) {
    wrong++;
    System.out.println("README.md: " + what);
  }

  private static int number(String told) throws ReflectiveOperationException {
    if (told.matches("[A-Z]+")) return ReachTrees.class.getField(told).getInt(null);
    return told.startsWith("0b") ? Integer.parseInt(told.substring(2), 2) : Integer.parseInt(told);
  }

  private static void call(ReachTrees x, Matcher line) throws ReflectiveOperationException {
    String name = line.group(1);
    String[] words = line.group(2).isEmpty() ? new String[0] : line.group(2).split(", ");
    int[] arguments = new int[words.length];
    for (int i = 0; i < words.length; i++) arguments[i] = number(words[i]);
    used.add(name);
    int got = Calls.make(x, Calls.call(name, arguments));
    if (got != number(line.group(3))) report(line.group() + " answered " + got);
  }

  private static void example(String block) throws ReflectiveOperationException {
    ReachTrees x = null;
    for (String line : block.strip().split("\n")) {
      Matcher text = TEXT.matcher(line);
      Matcher call = CALL.matcher(line);
      if (NEW.matcher(line).matches()) {
        x = new ReachTrees();
      } else if (x != null && text.matches()) {
        used.add("write");
        for (char letter : text.group(1).toCharArray()) x.write(letter);
      } else if (x != null && call.matches()) {
        call(x, call);
      } else {
        report("not understood: " + line);
      }
    }
  }

  public static void main(String[] args) throws IOException, ReflectiveOperationException {
    Matcher block = Pattern.compile("(?s)```java\n(.*?)```").matcher(Files.readString(Path.of("README.md")));
    while (block.find()) example(block.group(1));
    for (var method : ReachTrees.class.getDeclaredMethods()) {
      boolean open = java.lang.reflect.Modifier.isPublic(method.getModifiers());
      if (open && !used.contains(method.getName())) report("no example of " + method.getName());
    }
    System.out.println(wrong == 0 ? "all examples are as due" : wrong + " lines are not as due");
    if (wrong != 0) {
      System.exit(1);
    }
  }
}
