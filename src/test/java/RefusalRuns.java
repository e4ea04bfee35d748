import java.util.ArrayList;
import java.util.HashSet;
import java.util.List;
import java.util.Set;

/**
 * Every call with every mix of arguments at and beyond its bounds, in states that are empty, full and between:
 * the answer is the model's, no call throws, and one that is refused or only asks has changed nothing that later
 * calls answer.
 */
public final class RefusalRuns {
  private static final int MIN = Integer.MIN_VALUE;
  private static final int MAX = Integer.MAX_VALUE;
  private static final String[] ASKING = {
    "fault", "arc", "reaches", "above", "way", "around", "needless", "reduced", "fold", "gain", "best", "loss",
    "worst", "sever", "sum", "count"};
  private static int wrong = 0;
  private static int made = 0;
  private static int unchanging = 0;

  private final String name;
  private final List<int[]> state;
  private final List<Integer> reading;
  private final int n;
  private final Set<Integer> asking = new HashSet<>();

  private RefusalRuns(String name, String script) {
    this.name = name;
    state = Calls.read(script);
    reading = Reading.of(state);
    n = Calls.made(state).count(0);
    for (String call : ASKING) asking.add(Calls.place(call));
  }

  private void tryCall(String call, int... arguments) {
    int[] told = Calls.call(call, arguments);
    made++;
    int want = Model.made(state).make(told);
    int got = Calls.make(Calls.made(state), told);
    if (got != want) report(told, "answered " + got + ", due is " + want);
    boolean refused = want <= ReachTrees.UNKNOWN;
    if (refused || asking.contains(told[0])) {
      unchanging++;
      List<int[]> run = new ArrayList<>(state);
      run.add(told);
      if (!Reading.of(run).equals(reading)) report(told, "answered " + got + " and changed what later calls answer");
    }
  }

  private void report(int[] call, String what) {
    wrong++;
    if (wrong <= 20) System.out.println(name + ": " + Calls.tell(call) + " " + what);
  }

  /** Each argument goes through its own row, all of them mixed. */
  private void mix(String call, int[]... rows) {
    int[] arguments = new int[rows.length];
    mixFrom(call, rows, arguments, 0);
  }

  private void mixFrom(String call, int[][] rows, int[] arguments, int at) {
    if (at == rows.length) {
      tryCall(call, arguments);
      return;
    }
    for (int value : rows[at]) {
      arguments[at] = value;
      mixFrom(call, rows, arguments, at + 1);
    }
  }

  private void go() {
    int all = (1 << n) - 1;
    int[] points = {MIN, -1, 0, 1, n - 2, n - 1, n, 10, 32, MAX};
    int[] sets = {MIN, -1, 0, 1, 2, all, all + 1, 1 << 10, MAX};
    int[] rows = {MIN, -1, 0, 1, 2, 3, MAX};
    int[] few = {-1, 0, 1, 2};
    int[] arcs = {10 * (n - 1) + n - 2, 10 * (n - 1) + n, 10 * (n - 1) + n - 1, 10 * n};
    int[] things = {MIN, -10000, -9999, -1, 0, 1, 10, 11, 99, 100, 9999, 10000, MAX, arcs[0], arcs[1], arcs[2], arcs[3]};
    mix("write", new int[] {MIN, -1, 0, 32, 97, 255, 256, MAX});
    for (String call : new String[] {"erase", "fault", "net", "clear", "undo", "reduced", "best", "worst"}) mix(call);
    for (String call : new String[] {"put", "arc", "reaches", "above", "needless", "loss", "sever"}) {
      mix(call, points, points);
    }
    mix("take", sets, sets);
    for (String call : new String[] {"keep", "back", "chain", "drop"}) mix(call, rows);
    mix("way", points, points, new int[] {MIN, -1, 0, 1, n - 1, n, MAX});
    mix("around", points, rows);
    mix("fold", new int[] {MIN, -1, 0, 1, 2, 3, 4, MAX}, new int[] {MIN, -1, 0, 499, 500, 999, 1000, MAX});
    mix("gain", points, points, few);
    mix("add", rows, few, few, things);
    for (String call : new String[] {"last", "sum", "strike", "append"}) mix(call, rows, rows);
    mix("count", new int[] {MIN, -1, 0, 1, 2, 3, 4, 5, 6, 7, 8, 9, MAX});
  }

  private static String fortyArcs() {
    StringBuilder puts = new StringBuilder("text net 7 | net");
    int arcs = 0;
    for (int u = 0; u < 7; u++) {
      for (int v = 0; v < 7; v++) {
        if (u != v && arcs < 40) {
          puts.append(" | put ").append(u).append(' ').append(v);
          arcs++;
        }
      }
    }
    return puts.toString();
  }

  public static void main(String[] args) {
    String eight = " | chain 0" + " | add 0 0 1 -9999".repeat(4) + " | add 0 1 0 1".repeat(4);
    String[][] states = {
      {"a new object", ""},
      {"nothing but an empty chain and a kept net", "chain 0 | keep 0"},
      {"two points and all arcs", "text net 2;arc 0 1 | net | put 1 0 | keep 1 | chain 0 | add 0 0 1 3 | chain 1"},
      {"something of all", "text net 6;ring 0 1 2;path 2 3 4 | net | put 4 5 | keep 0 | put 0 5 | clear | put 5 0"
        + " | keep 1 | take 4 8 | chain 0 | chain 1 | add 0 0 1 7 | add 0 1 1 12 | add 1 1 0 50 | text arc 0"},
      {"forty arcs, eight to be undone, a full chain", fortyArcs() + " | keep 0" + eight + " | chain 2 | add 2 0 1 9999"},
      {"ten points, a text of 200 letters", "text net 10;path 0 1 2;path 2 3 4;path 4 5 6;path 6 7 8 | net | put 8 9"
        + " | put 0 9 | clear" + eight + " | chain 1 | add 1 1 1 98 | text arc 0 3;" + " ".repeat(182) + "ring 1 2 3"},
    };
    for (String[] state : states) {
      new RefusalRuns(state[0], state[1]).go();
    }
    System.out.println(wrong == 0
        ? "all " + made + " answers are as due, and " + unchanging + " calls changed nothing"
        : wrong + " answers are not as due");
    if (wrong != 0) {
      System.exit(1);
    }
  }
}
