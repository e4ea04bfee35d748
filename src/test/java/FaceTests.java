import java.lang.reflect.Constructor;
import java.lang.reflect.Field;
import java.lang.reflect.Method;
import java.lang.reflect.Modifier;
import java.util.TreeMap;

/** The public face is the document's and no more; no private method bears the name of a public one. */
public final class FaceTests {
  private static int wrong = 0;

  private static void due(String what, Object got, Object want) {
    if (!got.equals(want)) {
      wrong++;
      System.out.println(what + ": " + got + ", due is " + want);
    }
  }

  private static void methods() {
    TreeMap<String, Integer> want = new TreeMap<>();
    String[] none = {"erase", "fault", "net", "clear", "undo", "reduced", "best", "worst"};
    String[] one = {"write", "keep", "back", "chain", "drop", "count"};
    String[] two = {"put", "take", "arc", "reaches", "above", "around", "needless", "fold", "loss", "sever", "last",
        "sum", "strike", "append"};
    String[] three = {"way", "gain"};
    for (String name : none) want.put(name, 0);
    for (String name : one) want.put(name, 1);
    for (String name : two) want.put(name, 2);
    for (String name : three) want.put(name, 3);
    want.put("add", 4);
    TreeMap<String, Integer> got = new TreeMap<>();
    for (Method method : ReachTrees.class.getDeclaredMethods()) {
      if (!Modifier.isPrivate(method.getModifiers())) {
        due("answer of " + method.getName(), method.getReturnType(), int.class);
        for (Class<?> type : method.getParameterTypes()) due("argument of " + method.getName(), type, int.class);
        due("second " + method.getName(), got.containsKey(method.getName()), false);
        got.put(method.getName(), method.getParameterCount());
        due("public " + method.getName(), Modifier.isPublic(method.getModifiers()), true);
      } else {
        due("private " + method.getName(), want.containsKey(method.getName()), false);
      }
    }
    due("methods", got, want);
    for (Class<?> inside : ReachTrees.class.getDeclaredClasses()) {
      for (Method method : inside.getDeclaredMethods()) {
        due(inside.getName() + "." + method.getName(), want.containsKey(method.getName()), false);
      }
    }
  }

  private static void fields() throws IllegalAccessException {
    TreeMap<String, Integer> want = new TreeMap<>();
    String[] names = {"NONE", "UNKNOWN", "OUTSIDE", "NOT", "FULL", "NULL", "EMPTY", "CAST", "ROOM"};
    int[] values = {-1, -2, -3, -4, -5, -11, -12, -13, -14};
    for (int i = 0; i < names.length; i++) want.put(names[i], values[i]);
    TreeMap<String, Integer> got = new TreeMap<>();
    for (Field field : ReachTrees.class.getDeclaredFields()) {
      if (!Modifier.isPrivate(field.getModifiers())) {
        int how = field.getModifiers();
        due("type of " + field.getName(), field.getType(), int.class);
        due("public static final " + field.getName(),
            Modifier.isPublic(how) && Modifier.isStatic(how) && Modifier.isFinal(how), true);
        got.put(field.getName(), field.getInt(null));
      }
    }
    due("constants", got, want);
    Constructor<?>[] made = ReachTrees.class.getDeclaredConstructors();
    due("constructors", made.length, 1);
    due("arguments of the constructor", made[0].getParameterCount(), 0);
    due("public constructor", Modifier.isPublic(made[0].getModifiers()), true);
    due("public", Modifier.isPublic(ReachTrees.class.getModifiers()), true);
    due("final", Modifier.isFinal(ReachTrees.class.getModifiers()), true);
    due("package", ReachTrees.class.getPackageName(), "");
  }

  public static void main(String[] args) throws Exception {
    methods();
    fields();
    System.out.println(wrong == 0 ? "the face is as due" : wrong + " parts of the face are not as due");
    if (wrong != 0) {
      System.exit(1);
    }
  }
}
