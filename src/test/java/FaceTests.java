import java.lang.reflect.Constructor;
import java.lang.reflect.Field;
import java.lang.reflect.Method;
import java.lang.reflect.Modifier;
import java.nio.file.Files;
import java.nio.file.Path;
import java.util.TreeMap;
import java.util.TreeSet;
import java.util.regex.Matcher;
import java.util.regex.Pattern;

/** The public face is the document's and no more, and the source has none of the words that LANGUAGE.md rules out. */
public final class FaceTests {
  private static int wrong = 0;

  private static void due(String what, Object got, Object want) {
    if (!got.equals(want)) {
      wrong++;
      System.out.println(what + ": " + got + ", due is " + want);
    }
  }

  private static void methods() {
    TreeMap<String, Integer> want = new TreeMap<>();
    String[] none = {"erase", "fault", "net", "clear", "undo", "reduced", "best", "worst"};
    String[] one = {"write", "keep", "back", "chain", "drop", "count"};
    String[] two = {"put", "take", "arc", "reaches", "above", "around", "needless", "fold", "loss", "sever", "last",
        "sum", "strike", "append"};
    String[] three = {"way", "gain"};
    for (String name : none) want.put(name, 0);
    for (String name : one) want.put(name, 1);
    for (String name : two) want.put(name, 2);
    for (String name : three) want.put(name, 3);
    want.put("add", 4);
    TreeMap<String, Integer> got = new TreeMap<>();
    for (Method method : ReachTrees.class.getDeclaredMethods()) {
      if (!Modifier.isPrivate(method.getModifiers())) {
        due("answer of " + method.getName(), method.getReturnType(), int.class);
        for (Class<?> type : method.getParameterTypes()) due("argument of " + method.getName(), type, int.class);
        due("second " + method.getName(), got.containsKey(method.getName()), false);
        got.put(method.getName(), method.getParameterCount());
        due("public " + method.getName(), Modifier.isPublic(method.getModifiers()), true);
      } else {
        due("private " + method.getName(), want.containsKey(method.getName()), false);
      }
    }
    due("methods", got, want);
  }

  private static void fields() throws IllegalAccessException {
    TreeMap<String, Integer> want = new TreeMap<>();
    String[] names = {"NONE", "UNKNOWN", "OUTSIDE", "NOT", "FULL", "NULL", "EMPTY", "CAST", "ROOM"};
    int[] values = {-1, -2, -3, -4, -5, -11, -12, -13, -14};
    for (int i = 0; i < names.length; i++) want.put(names[i], values[i]);
    TreeMap<String, Integer> got = new TreeMap<>();
    for (Field field : ReachTrees.class.getDeclaredFields()) {
      if (!Modifier.isPrivate(field.getModifiers())) {
        got.put(field.getName(), field.getInt(null));
      }
    }
    due("constants", got, want);
    Constructor<?>[] made = ReachTrees.class.getDeclaredConstructors();
    due("constructors", made.length, 1);
    due("arguments of the constructor", made[0].getParameterCount(), 0);
    due("final", Modifier.isFinal(ReachTrees.class.getModifiers()), true);
  }

  /** Rules 1, 2, 5, 11: the classes inside, their fields and methods. */
  private static void classes() {
    Class<?>[] inside = ReachTrees.class.getDeclaredClasses();
    due("at most twelve classes", 1 + inside.length <= 12, true);
    inspect(ReachTrees.class);
    for (Class<?> one : inside) {
      int how = one.getModifiers();
      due("static " + one.getName(), Modifier.isStatic(how), true);
      due("open " + one.getName(), Modifier.isPublic(how) || Modifier.isProtected(how), false);
      inspect(one);
    }
  }

  private static void inspect(Class<?> one) {
    int fields = 0;
    for (Field field : one.getDeclaredFields()) {
      int how = field.getModifiers();
      if (Modifier.isStatic(how)) {
        due("final " + field.getName(), Modifier.isFinal(how), true);
        due("constant " + field.getName(), field.getType() == int.class, true);
      } else {
        fields++;
      }
    }
    due("at most twenty fields in " + one.getName(), fields <= 20, true);
    for (Method method : one.getDeclaredMethods()) {
      due("at most seven parameters of " + method.getName(), method.getParameterCount() <= 7, true);
    }
  }

  /** Rule 4: what the source names of the library, and no import beside. */
  private static void library(String code) {
    TreeSet<String> want = new TreeSet<>();
    for (String name : new String[] {"Arrays.fill", "Integer.bitCount", "Math.max", "Math.min", "System.arraycopy"}) {
      want.add(name);
    }
    TreeSet<String> got = new TreeSet<>();
    Matcher named = Pattern.compile("\\b([A-Z][a-z]\\w*\\.\\w+)\\(").matcher(code);
    while (named.find()) got.add(named.group(1));
    due("calls of the library", got, want);
    TreeSet<String> imports = new TreeSet<>();
    Matcher imported = Pattern.compile("import ([^;]+);").matcher(code);
    while (imported.find()) imports.add(imported.group(1));
    due("imports", imports.toString(), "[java.util.Arrays]");
  }

  private static void words() throws java.io.IOException {
    String source = Files.readString(Path.of("src/main/java/ReachTrees.java"));
    String code = source.replaceAll("(?s)/\\*.*?\\*/", " ").replaceAll("//[^\n]*", " ");
    TreeSet<String> found = new TreeSet<>();
    for (String word : code.split("[^A-Za-z0-9_]+")) {
      switch (word) {
        case "throw": case "throws": case "try": case "catch": case "finally": case "synchronized": case "assert":
        case "package": case "protected": case "Random": case "Thread": case "System.out": case "Object":
          found.add(word);
          break;
        default:
          break;
      }
    }
    due("words that are ruled out", found, new TreeSet<String>());
    library(code);
    due("lambdas, method references", code.contains("->") || code.contains("::"), false);
  }

  public static void main(String[] args) throws Exception {
    methods();
    fields();
    classes();
    words();
    System.out.println(wrong == 0 ? "the face is as due" : wrong + " parts of the face are not as due");
    if (wrong != 0) {
      System.exit(1);
    }
  }
}
