import java.util.ArrayList;
import java.util.List;
import java.util.TreeMap;
import java.util.TreeSet;
import java.util.regex.Matcher;
import java.util.regex.Pattern;

/** The document's calls done plainly, in other ways than the class does them. */
final class Model {
  /** Arcs as told numbers in order; trees as maps from a point to its above (its own root to -1). */
  static final class State {
    int n = 4;
    int work = 0;
    TreeSet<Integer> arcs = new TreeSet<>();
    List<TreeMap<Integer, Integer>> trees = new ArrayList<>();

    State(int n) {
      this.n = n;
      for (int s = 0; s < n; s++) {
        trees.add(alone(s));
      }
    }

    static TreeMap<Integer, Integer> alone(int s) {
      TreeMap<Integer, Integer> tree = new TreeMap<>();
      tree.put(s, -1);
      return tree;
    }

    State copy() {
      State c = new State(n);
      c.work = work;
      c.arcs.addAll(arcs);
      for (int s = 0; s < n; s++) {
        c.trees.set(s, new TreeMap<>(trees.get(s)));
      }
      return c;
    }

    void putIn(int u, int v) {
      arcs.add(10 * u + v);
      for (TreeMap<Integer, Integer> tree : trees) {
        if (tree.containsKey(u)) {
          work++;
          if (!tree.containsKey(v)) {
            tree.put(v, u);
            explore(tree, v);
          }
        }
      }
    }

    void explore(TreeMap<Integer, Integer> tree, int p) {
      for (int a : arcs.subSet(10 * p, 10 * p + 10)) {
        work++;
        if (!tree.containsKey(a % 10)) {
          tree.put(a % 10, p);
          explore(tree, a % 10);
        }
      }
    }

    void takeOut(TreeSet<Integer> gone) {
      arcs.removeAll(gone);
      for (int s = 0; s < n; s++) {
        boolean stood = false;
        for (int a : gone) {
          Integer over = trees.get(s).get(a % 10);
          stood |= over != null && over == a / 10;
        }
        if (stood) {
          trees.set(s, alone(s));
          explore(trees.get(s), s);
        }
      }
    }

    boolean[][] closure(int without) {
      boolean[][] r = new boolean[n][n];
      for (int a : arcs) {
        if (a != without) {
          r[a / 10][a % 10] = true;
        }
      }
      for (int k = 0; k < n; k++) {
        r[k][k] = true;
      }
      for (int k = 0; k < n; k++) {
        for (int i = 0; i < n; i++) {
          for (int j = 0; j < n; j++) {
            r[i][j] |= r[i][k] && r[k][j];
          }
        }
      }
      return r;
    }

    int pairs(int without) {
      boolean[][] r = closure(without);
      int pairs = 0;
      for (int i = 0; i < n; i++) {
        for (int j = 0; j < n; j++) {
          pairs += i != j && r[i][j] ? 1 : 0;
        }
      }
      return pairs;
    }

    int needless() {
      int needless = 0;
      for (int a : arcs) {
        needless += closure(a)[a / 10][a % 10] ? 1 : 0;
      }
      return needless;
    }

    int ring(boolean[][] r, int s) {
      int ring = 0;
      for (int t = 0; t < n; t++) {
        ring |= r[s][t] && r[t][s] ? 1 << t : 0;
      }
      return ring;
    }

    int rings() {
      boolean[][] r = closure(-1);
      TreeSet<Integer> rings = new TreeSet<>();
      for (int s = 0; s < n; s++) {
        rings.add(ring(r, s));
      }
      return rings.size();
    }

    /** The fewest arcs that lead out of a set of points with u and without v. */
    int sever(int u, int v) {
      int fewest = Integer.MAX_VALUE;
      for (int set = 0; set < 1 << n; set++) {
        if ((set >> u & 1) == 1 && (set >> v & 1) == 0) {
          int out = 0;
          for (int a : arcs) {
            out += (set >> a / 10 & 1) == 1 && (set >> a % 10 & 1) == 0 ? 1 : 0;
          }
          fewest = Math.min(fewest, out);
        }
      }
      return fewest;
    }
  }

  StringBuilder text = new StringBuilder();
  State now = new State(4);
  List<State> past = new ArrayList<>();
  State[] kept = new State[2];
  /** A thing is {1 for an arc, its value}. */
  List<List<int[]>> chains = new ArrayList<>(java.util.Arrays.asList(null, null, null));
  List<int[]> read = new ArrayList<>();

  int write(int letter) {
    if (letter < 0 || letter > 255) return -3;
    if (text.length() == 200) return -5;
    text.append((char) letter);
    return text.length();
  }

  int erase() {
    int had = text.length();
    text.setLength(0);
    return had;
  }

  int fault() {
    read.clear();
    List<String> tokens = new ArrayList<>();
    List<Integer> places = new ArrayList<>();
    Matcher m = Pattern.compile("[a-z]+|[0-9]+|[^ ]", Pattern.DOTALL).matcher(text);
    while (m.find()) {
      tokens.add(m.group());
      places.add(m.start());
    }
    tokens.add("");
    places.add(text.length());
    List<String> words = List.of("net", "arc", "ring", "path", "star");
    int at = 0;
    int n = now.n;
    while (true) {
      int kind = words.indexOf(tokens.get(at));
      if (kind < 0) return places.get(at);
      int[] clause = {kind, -1, -1, -1};
      at++;
      for (int i = 1; i <= Math.min(3, kind + 1); i++, at++) {
        String t = tokens.get(at);
        if (!t.matches("[0-9]{1,2}")) return places.get(at);
        int number = Integer.parseInt(t);
        if (kind == 0 ? number < 2 || number > 10 : number >= n) return places.get(at);
        for (int j = 1; j < i; j++) {
          if (clause[j] == number) return places.get(at);
        }
        clause[i] = number;
      }
      read.add(clause);
      if (kind == 0) n = clause[1];
      if (tokens.get(at).isEmpty()) return -1;
      if (!tokens.get(at).equals(";") || read.size() == 24) return places.get(at);
      at++;
    }
  }

  int net() {
    if (fault() != -1) return -4;
    int[][] steps = {{}, {1, 2}, {1, 2, 2, 3, 3, 1}, {1, 2, 2, 3}, {1, 2, 1, 3}};
    for (int[] clause : read) {
      if (clause[0] == 0) now = new State(clause[1]);
      int[] step = steps[clause[0]];
      for (int i = 0; i < step.length; i += 2) {
        int u = clause[step[i]];
        int v = clause[step[i + 1]];
        if (!now.arcs.contains(10 * u + v) && now.arcs.size() < 40) now.putIn(u, v);
      }
    }
    text.setLength(0);
    past.clear();
    kept = new State[2];
    for (int c = 0; c < 3; c++) chains.set(c, null);
    return read.size();
  }

  boolean point(int p) {
    return 0 <= p && p < now.n;
  }

  boolean two(int u, int v) {
    return point(u) && point(v) && u != v;
  }

  boolean there(int u, int v) {
    return now.arcs.contains(10 * u + v);
  }

  void note() {
    past.add(now.copy());
    if (past.size() > 8) past.remove(0);
  }

  int put(int u, int v) {
    if (!two(u, v)) return -2;
    if (there(u, v)) return -4;
    if (now.arcs.size() == 40) return -5;
    note();
    int before = now.pairs(-1);
    now.putIn(u, v);
    return now.pairs(-1) - before;
  }

  int take(int from, int to) {
    if (from < 0 || to < 0 || from >= 1 << now.n || to >= 1 << now.n) return -3;
    TreeSet<Integer> gone = new TreeSet<>();
    for (int a : now.arcs) {
      if ((from >> a / 10 & 1) == 1 && (to >> a % 10 & 1) == 1) gone.add(a);
    }
    if (gone.isEmpty()) return -4;
    note();
    now.takeOut(gone);
    return gone.size();
  }

  int clear() {
    int work = now.work;
    if (work == 0) return -4;
    note();
    now.work = 0;
    return work;
  }

  int undo() {
    if (past.isEmpty()) return -4;
    now = past.remove(past.size() - 1);
    return past.size();
  }

  int keep(int k) {
    if (k != 0 && k != 1) return -2;
    kept[k] = now.copy();
    return now.arcs.size();
  }

  int back(int k) {
    if (k != 0 && k != 1) return -2;
    if (kept[k] == null) return -4;
    now = kept[k].copy();
    past.clear();
    return now.arcs.size();
  }

  int way(int s, int v, int k) {
    if (!point(s) || !point(v)) return -2;
    if (k < 0) return -3;
    List<Integer> way = new ArrayList<>();
    if (now.trees.get(s).containsKey(v)) {
      for (int p = v; p != -1; p = now.trees.get(s).get(p)) way.add(0, p);
    }
    return k < way.size() ? way.get(k) : -1;
  }

  int above(int s, int v) {
    if (!point(s) || !point(v)) return -2;
    return now.trees.get(s).getOrDefault(v, -1);
  }

  int around(int s, int what) {
    if (!point(s)) return -2;
    if (what < 0 || what > 2) return -3;
    boolean[][] r = now.closure(-1);
    int set = 0;
    for (int t = 0; t < now.n; t++) {
      boolean in = what == 0 ? r[s][t] : what == 1 ? r[t][s] : r[s][t] && r[t][s];
      set |= in ? 1 << t : 0;
    }
    return set;
  }

  int fold(int rule, int x) {
    if (rule < 0 || rule > 3 || x < 0 || x > 999) return -3;
    boolean[][] r = now.closure(-1);
    for (int u = 0; u < now.n; u++) {
      for (int v = 0; v < now.n; v++) {
        if (u == v) continue;
        if (rule == 3) x = x * 2 % 1000;
        if (!r[u][v]) continue;
        x = rule == 0 || rule == 3 ? x + 1 : rule == 1 ? x + u + v : Math.max(x, 10 * u + v);
      }
    }
    return x;
  }

  int gain(int u, int v, int what) {
    if (!two(u, v)) return -2;
    if (what != 0 && what != 1) return -3;
    if (there(u, v)) return -4;
    State then = now.copy();
    then.putIn(u, v);
    return what == 0 ? then.pairs(-1) - now.pairs(-1) : then.work - now.work;
  }

  int best() {
    int best = -1;
    int most = -1;
    for (int a = 0; a < 100; a++) {
      if (two(a / 10, a % 10) && !there(a / 10, a % 10) && gain(a / 10, a % 10, 0) > most) {
        most = gain(a / 10, a % 10, 0);
        best = a;
      }
    }
    return best;
  }

  int loss(int u, int v) {
    return two(u, v) && there(u, v) ? now.pairs(-1) - now.pairs(10 * u + v) : -2;
  }

  int worst() {
    int worst = -1;
    for (int a : now.arcs) {
      if (worst < 0 || loss(a / 10, a % 10) > loss(worst / 10, worst % 10)) worst = a;
    }
    return worst;
  }

  boolean noChain(int c) {
    return c < 0 || c > 2;
  }

  int chain(int c) {
    if (noChain(c)) return -2;
    chains.set(c, new ArrayList<>());
    return 0;
  }

  int add(int c, int what, int end, int v) {
    if (noChain(c) || what == 1 && (v < 0 || !two(v / 10, v % 10))) return -2;
    if (what != 0 && what != 1 || end != 0 && end != 1 || what == 0 && Math.abs((long) v) > 9999) return -3;
    List<int[]> chain = chains.get(c);
    if (chain == null) return -11;
    if (chain.size() == 8) return -14;
    chain.add(end == 0 ? 0 : chain.size(), new int[] {what, v});
    return chain.size();
  }

  int last(int c, int what) {
    if (noChain(c)) return -2;
    if (what != 0 && what != 1) return -3;
    List<int[]> chain = chains.get(c);
    if (chain == null) return -11;
    if (chain.isEmpty()) return -12;
    if (chain.get(chain.size() - 1)[0] != what) return -13;
    return chain.remove(chain.size() - 1)[1] + (what == 0 ? 50000 : 0);
  }

  int sum(int c, int what) {
    if (noChain(c)) return -2;
    if (what < 0 || what > 2) return -3;
    if (chains.get(c) == null) return -11;
    int sum = 500000;
    for (int[] thing : chains.get(c)) sum += what == 2 || thing[0] == what ? thing[1] : 0;
    return sum;
  }

  int strike(int c, int what) {
    if (noChain(c)) return -2;
    if (what != 0 && what != 1) return -3;
    List<int[]> chain = chains.get(c);
    if (chain == null) return -11;
    int before = chain.size();
    chain.removeIf(t -> t[0] == 1 && (what == 1) == now.arcs.contains(t[1]));
    return before - chain.size();
  }

  int append(int from, int to) {
    if (noChain(from) || noChain(to)) return -2;
    if (chains.get(from) == null || chains.get(to) == null) return -11;
    if (chains.get(from).size() + chains.get(to).size() > 8) return -14;
    chains.get(to).addAll(new ArrayList<>(chains.get(from)));
    return chains.get(to).size();
  }

  int drop(int c) {
    if (noChain(c)) return -2;
    if (chains.get(c) == null) return -11;
    return chains.set(c, null).size();
  }

  int count(int what) {
    int things = 0;
    for (List<int[]> chain : chains) things += chain == null ? 0 : chain.size();
    switch (what) {
      case 0: return now.n;
      case 1: return now.arcs.size();
      case 2: return now.pairs(-1);
      case 3: return now.work;
      case 4: return now.rings();
      case 5: return now.needless();
      case 6: return things;
      case 7: return past.size();
      case 8: return text.length();
      default: return -3;
    }
  }

  int arc(int u, int v) {
    return !two(u, v) ? -2 : there(u, v) ? 1 : 0;
  }

  int reaches(int u, int v) {
    return !point(u) || !point(v) ? -2 : now.closure(-1)[u][v] ? 1 : 0;
  }

  int needless(int u, int v) {
    return !two(u, v) || !there(u, v) ? -2 : now.closure(10 * u + v)[u][v] ? 1 : 0;
  }

  int reduced() {
    return now.rings() < now.n ? -4 : now.arcs.size() - now.needless();
  }

  int sever(int u, int v) {
    return two(u, v) ? now.sever(u, v) : -2;
  }

  static Model made(List<int[]> run) {
    Model m = new Model();
    for (int[] call : run) m.make(call);
    return m;
  }

  int make(int[] c) {
    switch (Calls.name(c)) {
      case "write": return write(c[1]);
      case "erase": return erase();
      case "fault": return fault();
      case "net": return net();
      case "put": return put(c[1], c[2]);
      case "take": return take(c[1], c[2]);
      case "clear": return clear();
      case "undo": return undo();
      case "keep": return keep(c[1]);
      case "back": return back(c[1]);
      case "arc": return arc(c[1], c[2]);
      case "reaches": return reaches(c[1], c[2]);
      case "above": return above(c[1], c[2]);
      case "way": return way(c[1], c[2], c[3]);
      case "around": return around(c[1], c[2]);
      case "needless": return needless(c[1], c[2]);
      case "reduced": return reduced();
      case "fold": return fold(c[1], c[2]);
      case "gain": return gain(c[1], c[2], c[3]);
      case "best": return best();
      case "loss": return loss(c[1], c[2]);
      case "worst": return worst();
      case "sever": return sever(c[1], c[2]);
      case "chain": return chain(c[1]);
      case "add": return add(c[1], c[2], c[3], c[4]);
      case "last": return last(c[1], c[2]);
      case "sum": return sum(c[1], c[2]);
      case "strike": return strike(c[1], c[2]);
      case "append": return append(c[1], c[2]);
      case "drop": return drop(c[1]);
      case "count": return count(c[1]);
      default: throw new IllegalStateException("no call " + Calls.name(c));
    }
  }
}
