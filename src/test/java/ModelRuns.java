import java.util.Random;

/** Random runs of calls, from fixed seeds, against a plain model that is built in other ways than the class. */
public final class ModelRuns {
  private static final int RUNS = 3000;
  private static int wrong = 0;

  private final Random random;
  private final int run;
  /** In some runs nearly nothing is taken or undone, so that a net comes to its 40 arcs. */
  private final boolean dense;
  private final Model m = new Model();
  private final ReachTrees x = new ReachTrees();
  private final StringBuilder told = new StringBuilder();
  private int calls = 0;
  private boolean failed = false;

  private ModelRuns(int run) {
    this.run = run;
    this.random = new Random(run);
    this.dense = run % 4 == 0;
  }

  private void due(String name, int... arguments) {
    if (failed || calls == Calls.MOST) return;
    calls++;
    int[] call = Calls.call(name, arguments);
    int got = Calls.make(x, call);
    int want = m.make(call);
    told.append(Calls.tell(call)).append(" -> ").append(got).append('\n');
    if (got != want) {
      failed = true;
      wrong++;
      if (wrong <= 3) System.out.println("run " + run + ":\n" + told + "due is " + want);
    }
  }

  /** A number of low .. high, and seldom one outside. */
  private int around(int low, int high) {
    switch (random.nextInt(60)) {
      case 0: return low - 1;
      case 1: return high + 1;
      case 2: return random.nextBoolean() ? Integer.MIN_VALUE : Integer.MAX_VALUE;
      default: return low + random.nextInt(high - low + 1);
    }
  }

  private int point() {
    return around(0, m.now.n - 1);
  }

  private int set() {
    int all = (1 << m.now.n) - 1;
    switch (random.nextInt(30)) {
      case 0: return all + 1 + random.nextInt(5);
      case 1: return random.nextInt();
      case 2: return all;
      default: return random.nextInt(all + 1) & (random.nextBoolean() ? random.nextInt(all + 1) : all);
    }
  }

  private String clause() {
    int n = random.nextInt(6) == 0 ? 10 : m.now.n;
    String[] words = {"net", "arc", "ring", "path", "star"};
    int kind = random.nextInt(15) == 0 ? 0 : 1 + random.nextInt(4);
    StringBuilder clause = new StringBuilder(words[kind]);
    if (kind == 0) return clause.append(' ').append(2 + random.nextInt(9)).toString();
    int shift = random.nextInt(n);
    int step = 1 + random.nextInt(Math.max(1, n / 2));
    for (int i = 0; i < Math.min(3, kind + 1); i++) {
      clause.append(random.nextInt(40) == 0 ? "  " : " ").append((shift + i * step) % n);
    }
    return clause.toString();
  }

  private String text() {
    StringBuilder text = new StringBuilder();
    if (random.nextInt(3) > 0) text.append("net ").append((dense ? 7 : 2) + random.nextInt(dense ? 4 : 9)).append(';');
    int clauses = 1 + random.nextInt(5);
    for (int i = 0; i < clauses; i++) text.append(i == 0 ? "" : ";").append(clause());
    String signs = "  ;;0123456789anetrcigphsA,\t";
    while (random.nextInt(4) == 0) {
      int at = random.nextInt(text.length());
      char sign = signs.charAt(random.nextInt(signs.length()));
      switch (random.nextInt(3)) {
        case 0: text.insert(at, sign); break;
        case 1: text.setCharAt(at, sign); break;
        default: text.deleteCharAt(at); break;
      }
      if (text.length() == 0) break;
    }
    return text.toString();
  }

  private void tellText() {
    for (char letter : text().toCharArray()) due("write", letter);
    due("fault");
    due("net");
    due("erase");
  }

  private void doing() {
    int u = point();
    int v = point();
    int sort = random.nextInt(16);
    if (dense && sort < 7 && random.nextInt(8) > 0) sort = 15;
    switch (sort) {
      case 0: due("take", set(), set()); break;
      case 1: due("take", 1 << u, 1 << v); break;
      case 2: if (random.nextInt(3) == 0) due("clear"); break;
      case 3: case 4: due("undo"); break;
      case 5: due("keep", around(0, 1)); break;
      case 6: if (random.nextInt(3) == 0) due("back", around(0, 1)); break;
      default: due("put", u, v); break;
    }
  }

  private void looking() {
    int u = point();
    int v = point();
    switch (random.nextInt(15)) {
      case 0: due("arc", u, v); break;
      case 1: due("reaches", u, v); break;
      case 2: due("above", u, v); break;
      case 3: due("way", u, v, around(0, 5)); break;
      case 4: due("around", u, around(0, 2)); break;
      case 5: due("needless", u, v); break;
      case 6: due("reduced"); break;
      case 7: due("fold", around(0, 3), around(0, 999)); break;
      case 8: due("gain", u, v, around(0, 1)); break;
      case 9: if (random.nextInt(4) == 0) due("best"); break;
      case 10: due("loss", u, v); break;
      case 11: if (random.nextInt(4) == 0) due("worst"); break;
      case 12: due("sever", u, v); break;
      default: due("count", around(0, 8)); break;
    }
  }

  private void chaining() {
    int c = around(0, 2);
    int what = around(0, 1);
    switch (random.nextInt(12)) {
      case 0: if (random.nextInt(3) == 0) due("chain", c); break;
      case 1: due("last", c, what); break;
      case 2: due("sum", c, around(0, 2)); break;
      case 3: due("strike", c, what); break;
      case 4: due("append", c, around(0, 2)); break;
      case 5: if (random.nextInt(4) == 0) due("drop", c); break;
      case 6: due("count", 6); break;
      default: due("add", c, what, around(0, 1), what == 1 ? around(0, 10 * m.now.n) : around(-9999, 9999)); break;
    }
  }

  private void go() {
    int texts = random.nextInt(4);
    int made = 0;
    while (calls < Calls.MOST && !failed) {
      int sort = random.nextInt(20);
      if (sort == 0 && made < texts && calls < Calls.MOST / 2) {
        tellText();
        made++;
      } else if (sort < 9) {
        doing();
      } else if (sort < 16) {
        looking();
      } else {
        chaining();
      }
    }
  }

  public static void main(String[] args) {
    for (int run = 1; run <= RUNS; run++) {
      new ModelRuns(run).go();
    }
    System.out.println(wrong == 0 ? "all answers are as due" : wrong + " runs are not as due");
    if (wrong != 0) {
      System.exit(1);
    }
  }
}
