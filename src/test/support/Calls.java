import java.util.ArrayList;
import java.util.List;

/** Calls told as text, "put 0 1 | keep 0 | text net 5;arc 0 1 | net"; a call is {its name's place, its arguments}. */
final class Calls {
  /** What the document grants an object: what later calls answer is free. */
  static final int MOST = 512;

  private static final String[] NAMES = {
    "write", "erase", "fault", "net", "put", "take", "clear", "undo", "keep", "back", "arc", "reaches", "above", "way",
    "around", "needless", "reduced", "fold", "gain", "best", "loss", "worst", "sever", "chain", "add", "last", "sum",
    "strike", "append", "drop", "count"};

  private Calls() {}

  static int place(String name) {
    for (int i = 0; i < NAMES.length; i++) {
      if (NAMES[i].equals(name)) return i;
    }
    throw new IllegalStateException("no call " + name);
  }

  static String name(int[] call) {
    return NAMES[call[0]];
  }

  static int[] call(String name, int... arguments) {
    int[] call = new int[1 + arguments.length];
    call[0] = place(name);
    System.arraycopy(arguments, 0, call, 1, arguments.length);
    return call;
  }

  static String tell(int[] call) {
    StringBuilder told = new StringBuilder(name(call)).append('(');
    for (int i = 1; i < call.length; i++) told.append(i == 1 ? "" : ", ").append(call[i]);
    return told.append(')').toString();
  }

  /** "text .." stands for a write of each letter behind the blank. */
  static List<int[]> read(String script) {
    List<int[]> run = new ArrayList<>();
    for (String part : script.split(" \\| ")) {
      if (part.startsWith("text ")) {
        for (char letter : part.substring(5).toCharArray()) run.add(call("write", letter));
      } else if (!part.isEmpty()) {
        String[] words = part.split(" ");
        int[] arguments = new int[words.length - 1];
        for (int i = 0; i < arguments.length; i++) arguments[i] = Integer.parseInt(words[i + 1]);
        run.add(call(words[0], arguments));
      }
    }
    return run;
  }

  static ReachTrees made(List<int[]> run) {
    ReachTrees x = new ReachTrees();
    for (int[] call : run) make(x, call);
    return x;
  }

  static int make(ReachTrees x, int[] c) {
    switch (name(c)) {
      case "write": return x.write(c[1]);
      case "erase": return x.erase();
      case "fault": return x.fault();
      case "net": return x.net();
      case "put": return x.put(c[1], c[2]);
      case "take": return x.take(c[1], c[2]);
      case "clear": return x.clear();
      case "undo": return x.undo();
      case "keep": return x.keep(c[1]);
      case "back": return x.back(c[1]);
      case "arc": return x.arc(c[1], c[2]);
      case "reaches": return x.reaches(c[1], c[2]);
      case "above": return x.above(c[1], c[2]);
      case "way": return x.way(c[1], c[2], c[3]);
      case "around": return x.around(c[1], c[2]);
      case "needless": return x.needless(c[1], c[2]);
      case "reduced": return x.reduced();
      case "fold": return x.fold(c[1], c[2]);
      case "gain": return x.gain(c[1], c[2], c[3]);
      case "best": return x.best();
      case "loss": return x.loss(c[1], c[2]);
      case "worst": return x.worst();
      case "sever": return x.sever(c[1], c[2]);
      case "chain": return x.chain(c[1]);
      case "add": return x.add(c[1], c[2], c[3], c[4]);
      case "last": return x.last(c[1], c[2]);
      case "sum": return x.sum(c[1], c[2]);
      case "strike": return x.strike(c[1], c[2]);
      case "append": return x.append(c[1], c[2]);
      case "drop": return x.drop(c[1]);
      case "count": return x.count(c[1]);
      default: throw new IllegalStateException("no call " + name(c));
    }
  }
}
