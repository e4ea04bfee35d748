import java.util.ArrayList;
import java.util.List;
import java.util.Random;
import java.util.TreeSet;

/**
 * Sentences of the document that bind several calls together ("a way is told by walking its tree back", "GAIN: how
 * many pairs more, were it put in"), held against the class's own answers behind random runs. No model stands
 * between: what one call foretells another one does.
 */
public final class SentenceRuns {
  private static final int RUNS = 600;
  private static int wrong = 0;
  private static int held = 0;

  private final Random random;
  private final List<int[]> run = new ArrayList<>();
  private int n;
  private boolean[][] arc;
  private boolean[][] reaches;

  private SentenceRuns(int seed) {
    random = new Random(seed);
  }

  private void hold(String sentence, String where, int got, int want) {
    held++;
    if (got == want) return;
    wrong++;
    if (wrong > 10) return;
    StringBuilder told = new StringBuilder();
    for (int[] call : run) told.append(Calls.tell(call)).append(' ');
    System.out.println("\"" + sentence + "\": " + where + " " + got + ", due is " + want + "\n  behind " + told);
  }

  private ReachTrees anew() {
    return Calls.made(run);
  }

  private static int bit(int set, int p) {
    return set >> p & 1;
  }

  private static int toInt(boolean yes) {
    return yes ? 1 : 0;
  }

  // ---- the runs

  private void makeRun() {
    n = 2 + random.nextInt(9);
    run.addAll(Calls.read("text net " + n + " | net"));
    // In some runs nothing is taken, so that a net comes to its 40 arcs.
    boolean dense = random.nextInt(4) == 0;
    int calls = dense ? 150 : random.nextInt(60);
    for (int i = 0; i < calls; i++) run.add(dense ? Calls.call("put", random.nextInt(n), random.nextInt(n)) : someCall());
  }

  private int[] someCall() {
    int u = random.nextInt(n);
    int v = random.nextInt(n);
    switch (random.nextInt(14)) {
      case 0: return Calls.call("take", 1 << u, (1 << n) - 1);
      case 1: return Calls.call("take", random.nextInt(1 << n), 1 << v);
      case 2: return Calls.call("undo");
      case 3: return Calls.call("clear");
      case 4: return Calls.call("keep", random.nextInt(2));
      case 5: return random.nextInt(4) == 0 ? Calls.call("back", random.nextInt(2)) : Calls.call("put", u, v);
      default: return Calls.call("put", u, v);
    }
  }

  private void learn() {
    ReachTrees x = anew();
    ReachTrees y = anew();
    arc = new boolean[n][n];
    reaches = new boolean[n][n];
    for (int u = 0; u < n; u++) {
      for (int v = 0; v < n; v++) {
        arc[u][v] = x.arc(u, v) == 1;
        reaches[u][v] = y.reaches(u, v) == 1;
      }
    }
  }

  // ---- what it is, and section 1

  private void trees() {
    for (int s = 0; s < n; s++) {
      ReachTrees x = anew();
      int tree = x.around(s, 0);
      hold("s is in it", "its own bit of around(" + s + ", 0)", bit(tree, s), 1);
      hold("NONE (v is s)", "above(" + s + ", " + s + ")", x.above(s, s), ReachTrees.NONE);
      for (int v = 0; v < n; v++) {
        if (v != s) treePlace(x, tree, s, v);
      }
    }
  }

  private void treePlace(ReachTrees x, int tree, int s, int v) {
    int above = x.above(s, v);
    String where = "above(" + s + ", " + v + ")";
    hold("each under one that is in it; NONE: is not in it", where + " is there", toInt(above >= 0), bit(tree, v));
    if (above < 0) return;
    hold("each under one that is in it", where + " in the tree", bit(tree, above), 1);
    hold("grafted under it, by an arc from it", where + " has the arc", toInt(arc[above][v]), 1);
  }

  private void ways() {
    for (int s = 0; s < n; s++) {
      for (int v = 0; v < n; v++) {
        ReachTrees x = anew();
        List<Integer> walk = new ArrayList<>();
        if (reaches[s][v]) walk.add(v);
        for (int p = v; reaches[s][v] && p != s && walk.size() <= n; p = walk.get(0)) walk.add(0, x.above(s, p));
        hold("a way is told by walking its tree back", "points from " + s + " to " + v, toInt(walk.size() <= n), 1);
        for (int k = 0; k <= walk.size() + 1; k++) {
          int due = k < walk.size() ? walk.get(k) : ReachTrees.NONE;
          hold("a way is told by walking its tree back", "way(" + s + ", " + v + ", " + k + ")", x.way(s, v, k), due);
        }
      }
    }
  }

  // ---- section 2

  /** The aboves of each tree; a tree's own point, and one that is not in it, has NONE. */
  private int[][] aboves(ReachTrees x) {
    int[][] aboves = new int[n][n];
    for (int s = 0; s < n; s++) {
      for (int v = 0; v < n; v++) aboves[s][v] = x.above(s, v);
    }
    return aboves;
  }

  /** How many arcs were looked at behind p, whose above stands already. */
  private int graftBehind(int[] tree, int s, int p) {
    int work = 0;
    for (int q = 0; q < n; q++) {
      if (!arc[p][q]) continue;
      work++;
      if (q != s && tree[q] == ReachTrees.NONE) {
        tree[q] = p;
        work += graftBehind(tree, s, q);
      }
    }
    return work;
  }

  private void grafted() {
    ReachTrees x = anew();
    int u = random.nextInt(n);
    int v = (u + 1 + random.nextInt(n - 1)) % n;
    int work = x.count(3);
    int[][] due = aboves(x);
    if (x.put(u, v) < 0) return;
    arc[u][v] = true;
    for (int s = 0; s < n; s++) {
      if (!reaches[s][u]) continue;
      work++;
      if (reaches[s][v]) continue;
      due[s][v] = u;
      work += graftBehind(due[s], s, v);
    }
    arc[u][v] = false;
    holdTrees("if v is not in that TREE, it is GRAFTED under u", "put(" + u + ", " + v + ")", x, due, work);
  }

  private void takenOut() {
    ReachTrees x = anew();
    int from = random.nextInt(3) == 0 ? random.nextInt(1 << n) : 1 << random.nextInt(n);
    int to = random.nextInt(3) == 0 ? random.nextInt(1 << n) : 1 << random.nextInt(n);
    int work = x.count(3);
    int[][] due = aboves(x);
    if (x.take(from, to) < 0) return;
    boolean[][] before = arc;
    arc = new boolean[n][n];
    for (int u = 0; u < n; u++) {
      for (int v = 0; v < n; v++) arc[u][v] = before[u][v] && (bit(from, u) == 0 || bit(to, v) == 0);
    }
    for (int s = 0; s < n; s++) {
      if (!stood(due[s])) continue;
      java.util.Arrays.fill(due[s], ReachTrees.NONE);
      work += graftBehind(due[s], s, s);
    }
    arc = before;
    holdTrees("the TREE is made ANEW. Other TREES stay", "take(" + from + ", " + to + ")", x, due, work);
  }

  /** On an arc that is not there any more. */
  private boolean stood(int[] tree) {
    for (int v = 0; v < n; v++) {
      if (tree[v] != ReachTrees.NONE && !arc[tree[v]][v]) return true;
    }
    return false;
  }

  private void holdTrees(String sentence, String call, ReachTrees x, int[][] due, int work) {
    int[][] got = aboves(x);
    for (int s = 0; s < n; s++) {
      for (int v = 0; v < n; v++) hold(sentence, "above(" + s + ", " + v + ") behind " + call, got[s][v], due[s][v]);
    }
    hold("WORK is 1 more", "count(3) behind " + call, x.count(3), work);
  }

  // ---- section 3

  private void reached() {
    ReachTrees x = anew();
    int pairs = 0;
    int arcs = 0;
    TreeSet<Integer> rings = new TreeSet<>();
    for (int u = 0; u < n; u++) {
      int goes = x.around(u, 0);
      int comes = x.around(u, 1);
      rings.add(x.around(u, 2));
      hold("POINTS that REACH one another", "around(" + u + ", 2)", x.around(u, 2), goes & comes);
      for (int v = 0; v < n; v++) {
        hold("u REACHES v, if v is in the TREE of u", "reaches(" + u + ", " + v + ")", toInt(reaches[u][v]), bit(goes, v));
        hold("that REACH s", "bit " + v + " of around(" + u + ", 1)", bit(comes, v), toInt(reaches[v][u]));
        hold("can be come to, by any row of arcs", u + " to " + v, toInt(reaches[u][v]), toInt(comesTo(u, v, -1)));
        pairs += toInt(u != v && reaches[u][v]);
        arcs += toInt(arc[u][v]);
      }
    }
    hold("0 POINTS", "count(0)", x.count(0), n);
    hold("1 ARCS", "count(1)", x.count(1), arcs);
    hold("2 pairs (unlike POINTS) that REACH", "count(2)", x.count(2), pairs);
    hold("4 RINGS", "count(4)", x.count(4), rings.size());
  }

  /** By steps over arcs alone, one arc (told) left out. */
  private boolean comesTo(int u, int v, int without) {
    boolean[] seen = new boolean[n];
    seen[u] = true;
    for (int step = 0; step < n; step++) {
      for (int p = 0; p < n; p++) {
        for (int q = 0; q < n; q++) {
          if (seen[p] && arc[p][q] && 10 * p + q != without) seen[q] = true;
        }
      }
    }
    return seen[v];
  }

  private void needless() {
    int many = 0;
    int arcs = 0;
    for (int u = 0; u < n; u++) {
      for (int v = 0; v < n; v++) {
        if (!arc[u][v]) continue;
        int said = anew().needless(u, v);
        ReachTrees x = anew();
        x.take(1 << u, 1 << v);
        hold("if v could be come to from u by the other ARCS", "needless(" + u + ", " + v + ")", said, x.reaches(u, v));
        hold("if v could be come to from u by the other ARCS", "needless(" + u + ", " + v + ")", said,
            toInt(comesTo(u, v, 10 * u + v)));
        many += said;
        arcs++;
      }
    }
    ReachTrees x = anew();
    hold("5 NEEDLESS ARCS", "count(5)", x.count(5), many);
    hold("How many ARCS are not NEEDLESS. NOT: some RING has several POINTS", "reduced()", x.reduced(),
        x.count(4) < n ? ReachTrees.NOT : arcs - many);
  }

  private void folds() {
    int start = random.nextInt(1000);
    int[] due = {start, start, start, start};
    for (int u = 0; u < n; u++) {
      for (int v = 0; v < n; v++) {
        if (u == v) continue;
        due[3] = 2 * due[3] % 1000;
        if (!reaches[u][v]) continue;
        due[0] = due[0] + 1;
        due[1] = due[1] + u + v;
        due[2] = Math.max(due[2], 10 * u + v);
        due[3] = (due[3] + 1) % 1000;
      }
    }
    for (int rule = 0; rule < 4; rule++) {
      hold("FOLD by a rule over all pairs", "fold(" + rule + ", " + start + ")", anew().fold(rule, start), due[rule]);
    }
  }

  private void gains() {
    int best = ReachTrees.NONE;
    int most = -1;
    for (int u = 0; u < n; u++) {
      for (int v = 0; v < n; v++) {
        if (u == v || arc[u][v]) continue;
        int gain = gain(u, v);
        if (gain > most) {
          most = gain;
          best = 10 * u + v;
        }
      }
    }
    hold("the ARC that is not there with the greatest GAIN, of several the first", "best()", anew().best(), best);
  }

  private int gain(int u, int v) {
    ReachTrees x = anew();
    String where = "(" + u + ", " + v + ", ";
    int pairs = x.gain(u, v, 0);
    int work = x.gain(u, v, 1);
    int pairsBefore = x.count(2);
    int workBefore = x.count(3);
    int arcsBefore = x.count(1);
    int put = x.put(u, v);
    if (arcsBefore == 40) {
      hold("FULL: 40", "put(" + u + ", " + v + ")", put, ReachTrees.FULL);
      return pairs;
    }
    hold("how many pairs more would be REACHED, were it put in", "gain" + where + "0)", pairs, put);
    hold("how many pairs more REACH now", "put(" + u + ", " + v + ")", put, x.count(2) - pairsBefore);
    hold("how much WORK more", "gain" + where + "1)", work, x.count(3) - workBefore);
    return pairs;
  }

  private void losses() {
    int worst = ReachTrees.NONE;
    int most = -1;
    for (int u = 0; u < n; u++) {
      for (int v = 0; v < n; v++) {
        if (!arc[u][v]) continue;
        ReachTrees x = anew();
        int loss = x.loss(u, v);
        int before = x.count(2);
        x.take(1 << u, 1 << v);
        hold("how many pairs fewer", "loss(" + u + ", " + v + ")", loss, before - x.count(2));
        if (loss > most) {
          most = loss;
          worst = 10 * u + v;
        }
      }
    }
    hold("the ARC with the greatest LOSS, of several the first", "worst()", anew().worst(), worst);
  }

  /** As many losses as SEVER says can part the two, chosen one by one so that each makes SEVER one less. */
  private void severs() {
    int u = random.nextInt(n);
    int v = (u + 1 + random.nextInt(n - 1)) % n;
    ReachTrees x = anew();
    int fewest = x.sever(u, v);
    hold("would leave v not to be come to", "sever is 0", toInt(fewest == 0), toInt(!reaches[u][v]));
    for (int left = fewest; left > 0; left--) {
      int taken = arcThatParts(u, v, left);
      hold("the fewest ARCS that, not being there", "an arc whose loss makes sever(" + u + ", " + v + ") less",
          toInt(taken >= 0), 1);
      if (taken < 0) return;
      run.add(Calls.call("take", 1 << taken / 10, 1 << taken % 10));
    }
    hold("would leave v not to be come to from u", "reaches(" + u + ", " + v + ")", anew().reaches(u, v), 0);
  }

  private int arcThatParts(int u, int v, int now) {
    int found = -1;
    for (int a = 0; a < 10 * n; a++) {
      if (a % 10 >= n || !arc[a / 10][a % 10]) continue;
      ReachTrees x = anew();
      if (x.take(1 << a / 10, 1 << a % 10) < 0) continue;
      int then = x.sever(u, v);
      hold("one loss makes SEVER one less or leaves it", "sever(" + u + ", " + v + ") without " + a,
          toInt(then == now || then == now - 1), 1);
      if (found < 0 && then == now - 1) found = a;
    }
    return found;
  }

  // ---- what is done, undone, kept

  private void undone() {
    List<Integer> before = look(anew());
    String[] doings = {"put", "take", "clear"};
    for (String doing : doings) {
      ReachTrees x = anew();
      int u = random.nextInt(n);
      int v = random.nextInt(n);
      int[] call = doing.equals("put") ? Calls.call("put", u, v)
          : doing.equals("take") ? Calls.call("take", random.nextInt(1 << n), random.nextInt(1 << n)) : Calls.call("clear");
      int can = x.count(7);
      if (Calls.make(x, call) < 0) continue;
      hold("(the last 8 can be)", "count(7) behind " + Calls.tell(call), x.count(7), Math.min(8, can + 1));
      hold("how many can be undone yet", "undo() of " + Calls.tell(call), x.undo(), Math.min(7, can));
      hold("TREES, WORK as ahead of it", "all as ahead of " + Calls.tell(call), toInt(look(x).equals(before)), 1);
    }
  }

  private void kept() {
    List<Integer> before = look(anew());
    ReachTrees x = anew();
    int k = random.nextInt(2);
    int arcs = x.keep(k);
    x.put(0, 1);
    x.take((1 << n) - 1, 1 + random.nextInt((1 << n) - 1));
    x.clear();
    hold("how many ARCS", "back(" + k + ")", x.back(k), arcs);
    hold("It is as it was kept", "all as ahead of keep(" + k + ")", toInt(look(x).equals(before)), 1);
    hold("nothing can be undone", "undo()", x.undo(), ReachTrees.NOT);
  }

  private List<Integer> look(ReachTrees x) {
    List<Integer> seen = new ArrayList<>();
    for (int what = 0; what <= 5; what++) seen.add(x.count(what));
    for (int u = 0; u < n; u++) {
      for (int v = 0; v < n; v++) {
        seen.add(x.arc(u, v));
        seen.add(x.above(u, v));
      }
    }
    return seen;
  }

  // ---- the text

  /** A text's clauses do what a put() of each arc, in their order, does. */
  private static void textsAndPuts(int seed) {
    SentenceRuns both = new SentenceRuns(seed);
    Random random = both.random;
    both.n = 3 + random.nextInt(8);
    StringBuilder text = new StringBuilder("net " + both.n);
    ReachTrees byPuts = Calls.made(Calls.read("text net " + both.n + " | net"));
    int clauses = 1;
    while (clauses < 24 && text.length() <= 200 - ";ring 0 1 2".length()) {
      int[] p = both.threePoints();
      String[] words = {"arc", "ring", "path", "star"};
      int[][] steps = {{0, 1}, {0, 1, 1, 2, 2, 0}, {0, 1, 1, 2}, {0, 1, 0, 2}};
      int kind = random.nextInt(4);
      text.append(';').append(words[kind]);
      for (int i = 0; i < (kind == 0 ? 2 : 3); i++) text.append(' ').append(p[i]);
      for (int i = 0; i < steps[kind].length; i += 2) byPuts.put(p[steps[kind][i]], p[steps[kind][i + 1]]);
      clauses++;
    }
    both.run.addAll(Calls.read("text " + text));
    ReachTrees byText = both.anew();
    both.hold("THE TEXT's CLAUSES are done: how many there were", "net()", byText.net(), clauses);
    both.hold("each is put in, in this order", "all as by put()", toInt(both.look(byText).equals(both.look(byPuts))), 1);
  }

  private int[] threePoints() {
    int u = random.nextInt(n);
    int v = (u + 1 + random.nextInt(n - 1)) % n;
    int w = random.nextInt(n);
    while (w == u || w == v) w = (w + 1) % n;
    return new int[] {u, v, w};
  }

  private void go() {
    makeRun();
    learn();
    trees();
    ways();
    grafted();
    takenOut();
    reached();
    needless();
    folds();
    gains();
    losses();
    undone();
    kept();
    severs();
  }

  public static void main(String[] args) {
    for (int seed = 1; seed <= RUNS; seed++) {
      new SentenceRuns(seed).go();
      textsAndPuts(seed);
    }
    System.out.println(wrong == 0 ? "all " + held + " answers hold" : wrong + " answers do not hold");
    if (wrong != 0) {
      System.exit(1);
    }
  }
}
