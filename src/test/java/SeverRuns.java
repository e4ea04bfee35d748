import java.util.Random;

/** SEVER of all pairs in random nets, against the fewest arcs that lead out of a set of points with u and without v. */
public final class SeverRuns {
  private static final int NETS = 6000;
  /** Nets in which a way runs back over an arc that one more way would then run over: random ones hold few such. */
  private static final String[] HARD = {
    "10 07 19 45 91 43 41 09 29 04 23 10 18 42 05 03 36 16 13 98 60 65 56 90 80 73 15 21",
    "10 92 34 73 50 32 65 30 04 38 19 24 90 98 86 27 95 60 06 12 39 85 31 94 46 10 47 81",
    "10 19 46 92 53 91 65 48 02 50 61 71 13 45 94 15 23 93 72 18 52 84 30 60 26 34",
    "9 01 32 12 36 13 73 76 51 86 65 41 08 68 34 50 83 16 81 07 67 38 75 15 21 52 74 54 37",
    "9 81 02 58 46 54 87 83 04 08 86 41 51 36 31 53 74 30 56 64 25 03 37",
    "10 07 29 91 01 42 65 71 78 05 10 52 28 93 39 18 14 36 81 84 23 08 90 20 45 96 75 30",
    "10 95 20 02 49 85 76 80 36 97 50 68 03 35 28 46 61 04 90 78 29 53 01 16 74 79 19 56 58 05",
    "8 25 76 16 07 13 43 35 52 40 14 02 51 67 01 63 37 23 47 05",
    "9 61 46 05 50 18 20 42 32 13 30 67 85 10 02 34 38 41 35 26 84 45 62"};
  private static int wrong = 0;

  private final int n;
  private final ReachTrees x = new ReachTrees();
  private final boolean[][] arcs;
  private final StringBuilder told = new StringBuilder();

  private SeverRuns(int n) {
    this.n = n;
    arcs = new boolean[n][n];
    for (char letter : ("net " + n).toCharArray()) x.write(letter);
    x.net();
  }

  private static SeverRuns random(Random random) {
    SeverRuns net = new SeverRuns(6 + random.nextInt(5));
    int most = Math.min(40, net.n * (net.n - 1));
    int howMany = most / 3 + random.nextInt(most - most / 3 + 1);
    for (int i = 0; i < howMany; i++) net.put(random.nextInt(net.n), random.nextInt(net.n));
    return net;
  }

  private static SeverRuns told(String numbers) {
    String[] words = numbers.split(" ");
    SeverRuns net = new SeverRuns(Integer.parseInt(words[0]));
    for (int i = 1; i < words.length; i++) net.put(words[i].charAt(0) - '0', words[i].charAt(1) - '0');
    return net;
  }

  private void put(int u, int v) {
    if (x.put(u, v) >= 0) {
      arcs[u][v] = true;
      told.append(' ').append(u).append(v);
    }
  }

  private int[] arcsOutOfSets() {
    int[] out = new int[1 << n];
    for (int set = 0; set < 1 << n; set++) {
      for (int u = 0; u < n; u++) {
        for (int v = 0; v < n; v++) {
          if (arcs[u][v] && (set >> u & 1) == 1 && (set >> v & 1) == 0) out[set]++;
        }
      }
    }
    return out;
  }

  private void go() {
    int[] out = arcsOutOfSets();
    for (int u = 0; u < n; u++) {
      for (int v = 0; v < n; v++) {
        if (u != v) check(out, u, v);
      }
    }
  }

  private void check(int[] out, int u, int v) {
    int want = Integer.MAX_VALUE;
    for (int set = 0; set < 1 << n; set++) {
      if ((set >> u & 1) == 1 && (set >> v & 1) == 0) want = Math.min(want, out[set]);
    }
    int got = x.sever(u, v);
    if (got != want) {
      wrong++;
      if (wrong <= 10) {
        System.out.println("net " + n + " with arcs" + told + ": sever(" + u + ", " + v + ") answered " + got + ", due is " + want);
      }
    }
  }

  public static void main(String[] args) {
    for (String net : HARD) told(net).go();
    for (int run = 1; run <= NETS; run++) random(new Random(run)).go();
    System.out.println(wrong == 0 ? "all answers are as due" : wrong + " answers are not as due");
    if (wrong != 0) {
      System.exit(1);
    }
  }
}
