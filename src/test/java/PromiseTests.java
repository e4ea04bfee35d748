/** Each promise by itself: ordinary inputs, the edges that the document names, wrong inputs. */
public final class PromiseTests {
  private static int wrong = 0;
  private static int promise = 0;

  private static void due(String call, int got, int want) {
    if (got != want) {
      wrong++;
      System.out.println("promise " + promise + ": " + call + " answered " + got + ", due is " + want);
    }
  }

  private static void write(ReachTrees x, String text) {
    for (int i = 0; i < text.length(); i++) {
      x.write(text.charAt(i));
    }
  }

  private static ReachTrees told(String text) {
    ReachTrees x = new ReachTrees();
    write(x, text);
    x.net();
    return x;
  }

  private static void dueFault(String text, int want) {
    ReachTrees x = new ReachTrees();
    write(x, text);
    due("fault() of '" + text + "'", x.fault(), want);
    due("net() of '" + text + "'", x.net() < 0 ? 1 : 0, want == -1 ? 0 : 1);
  }

  private static String times(String part, int n) {
    StringBuilder all = new StringBuilder();
    for (int i = 0; i < n; i++) {
      all.append(part);
    }
    return all.toString();
  }

  /** All arcs among seven points but the last two: 40. */
  private static ReachTrees full() {
    ReachTrees x = told("net 7");
    int arcs = 0;
    for (int u = 0; u < 7; u++) {
      for (int v = 0; v < 7; v++) {
        if (u != v && arcs < 40) {
          x.put(u, v);
          arcs++;
        }
      }
    }
    return x;
  }

  private static void newObject() {
    promise = 1;
    ReachTrees x = new ReachTrees();
    int[] counts = {4, 0, 0, 0, 4, 0, 0, 0, 0};
    for (int i = 0; i < counts.length; i++) {
      due("count(" + i + ")", x.count(i), counts[i]);
    }
    for (int s = 0; s < 4; s++) {
      due("around(" + s + ", 0)", x.around(s, 0), 1 << s);
    }
    for (int c = 0; c < 3; c++) {
      due("drop(" + c + ")", x.drop(c), ReachTrees.NULL);
    }
    due("back(0)", x.back(0), ReachTrees.NOT);
    due("back(1)", x.back(1), ReachTrees.NOT);
    due("undo()", x.undo(), ReachTrees.NOT);
  }

  private static void writing() {
    promise = 2;
    ReachTrees x = new ReachTrees();
    due("write(-1)", x.write(-1), ReachTrees.OUTSIDE);
    due("write(256)", x.write(256), ReachTrees.OUTSIDE);
    due("write(0)", x.write(0), 1);
    due("write(255)", x.write(255), 2);
    for (int i = 3; i <= 200; i++) {
      due("write(97)", x.write(97), i);
    }
    due("write(97)", x.write(97), ReachTrees.FULL);
    due("write(256)", x.write(256), ReachTrees.OUTSIDE);
    due("count(8)", x.count(8), 200);
  }

  private static void erasing() {
    promise = 3;
    ReachTrees x = new ReachTrees();
    due("erase()", x.erase(), 0);
    write(x, "net 5");
    due("erase()", x.erase(), 5);
    due("erase()", x.erase(), 0);
    due("count(0)", x.count(0), 4);
    write(x, times("a", 200));
    due("erase()", x.erase(), 200);
    due("write(97)", x.write(97), 1);
  }

  private static void faults() {
    promise = 4;
    dueFault("net 2", -1);
    dueFault("net 10", -1);
    dueFault("net 02", -1);
    dueFault("net 1", 4);
    dueFault("net 11", 4);
    dueFault("net 010", 4);
    dueFault("net 002", 4);
    dueFault("net x", 4);
    dueFault("net 2 3", 6);
    dueFault("", 0);
    dueFault("   ", 3);
    dueFault("net", 3);
    dueFault("net ", 4);
    dueFault("arc 0 3", -1);
    dueFault("arc 03 00", -1);
    dueFault("arc 0 4", 6);
    dueFault("arc 4 0", 4);
    dueFault("arc 0 00", 6);
    dueFault("arc 0;", 5);
    dueFault("arc 0 1;", 8);
    dueFault("arc 0 1; ", 9);
    dueFault(";arc 0 1", 0);
    dueFault("arc 0 1;;arc 1 2", 8);
    dueFault("arc 0 1 ; arc 1 2 ", -1);
    dueFault("  arc  0  1;arc 1 2", -1);
    dueFault("arc0 1", -1);
    dueFault("arc 0 1arc", 7);
    dueFault("arcs 0 1", 0);
    dueFault("arcz 0 1", 0);
    dueFault("arca 0 1", 0);
    dueFault("arc{0 1", 3);
    dueFault("arc`0 1", 3);
    dueFault("arc 0 1/", 7);
    dueFault("arc 0 1:", 7);
    dueFault("net 9;arc 9 0", 10);
    dueFault("ar 0 1", 0);
    dueFault("Arc 0 1", 0);
    dueFault("0 1", 0);
    dueFault("arc 0,1", 5);
    dueFault("arc 0 -1", 6);
    dueFault("arc\t0 1", 3);
    dueFault("ring 0 1 2", -1);
    dueFault("ring 0 1 0", 9);
    dueFault("ring 0 1 1", 9);
    dueFault("ring 0 0 1", 7);
    dueFault("ring 0 1", 8);
    dueFault("ring 0 1;", 8);
    dueFault("path 0 1 2", -1);
    dueFault("path 0 1 4", 9);
    dueFault("star 3 2 1", -1);
    dueFault("star 3 2 2", 9);
    dueFault("star 0 1 2 3", 11);
    dueFault("net 10;arc 9 0", -1);
    dueFault("net 2;arc 0 2", 12);
    dueFault("net 2;net 5;arc 0 4", -1);
    dueFault("arc 0 4;net 5", 6);
    dueFault("net 1;net 1", 4);
    dueFault(times("net 2;", 23) + "net 2", -1);
    dueFault(times("net 2;", 24) + "net 2", 143);
    dueFault(times("net 2;", 24), 143);
    ReachTrees x = told("net 9");
    write(x, "arc 8 0");
    due("fault()", x.fault(), -1);
    due("fault()", x.fault(), -1);
    due("count(8)", x.count(8), 7);
    due("count(1)", x.count(1), 0);
  }

  private static void nets() {
    promise = 5;
    ReachTrees x = told("net 5;path 0 1 2;ring 2 3 4;star 4 0 1");
    due("count(8)", x.count(8), 0);
    due("count(0)", x.count(0), 5);
    due("count(1)", x.count(1), 7);
    int[] arcs = {1, 12, 23, 34, 42, 40, 41};
    for (int a : arcs) {
      due("arc of " + a, x.arc(a / 10, a % 10), 1);
    }
    due("net()", x.net(), ReachTrees.NOT);
    write(x, "arc 0 1;arc 0 2");
    due("net()", x.net(), 2);
    due("count(1)", x.count(1), 8);
    write(x, "arc 0 5");
    due("net()", x.net(), ReachTrees.NOT);
    due("count(8)", x.count(8), 7);
    due("count(1)", x.count(1), 8);
    x.erase();
    netsForget(x);
    netsWork();
  }

  private static void netsForget(ReachTrees x) {
    x.keep(0);
    x.keep(1);
    x.chain(0);
    x.add(0, 0, 0, 5);
    x.put(0, 3);
    write(x, "arc 0 1");
    due("net()", x.net(), 1);
    due("undo()", x.undo(), ReachTrees.NOT);
    due("back(0)", x.back(0), ReachTrees.NOT);
    due("back(1)", x.back(1), ReachTrees.NOT);
    due("drop(0)", x.drop(0), ReachTrees.NULL);
    due("count(1)", x.count(1), 9);
    write(x, "net 3");
    due("net()", x.net(), 1);
    due("count(0)", x.count(0), 3);
    due("count(1)", x.count(1), 0);
    due("count(2)", x.count(2), 0);
    due("count(3)", x.count(3), 0);
    due("put(0, 2)", x.put(0, 2), 1);
    due("put(0, 3)", x.put(0, 3), ReachTrees.UNKNOWN);
  }

  private static void netsWork() {
    // The order in which a ring's arcs come decides who is under whom, and the work.
    ReachTrees x = told("ring 0 1 2");
    due("count(3)", x.count(3), 9);
    due("above(2, 1)", x.above(2, 1), 0);
    write(x, "arc 0 1");
    x.net();
    due("count(3)", x.count(3), 9);
    ReachTrees y = full();
    write(y, "star 6 4 5");
    due("net()", y.net(), 1);
    due("count(1)", y.count(1), 40);
  }

  private static void puts() {
    promise = 6;
    ReachTrees x = new ReachTrees();
    due("put(-1, 0)", x.put(-1, 0), ReachTrees.UNKNOWN);
    due("put(0, 4)", x.put(0, 4), ReachTrees.UNKNOWN);
    due("put(2, 2)", x.put(2, 2), ReachTrees.UNKNOWN);
    due("put(1, 2)", x.put(1, 2), 1);
    due("put(1, 2)", x.put(1, 2), ReachTrees.NOT);
    due("put(1, 3)", x.put(1, 3), 1);
    due("put(2, 3)", x.put(2, 3), 1);
    due("above(1, 3)", x.above(1, 3), 1);
    due("count(3)", x.count(3), 4);
    due("put(0, 1)", x.put(0, 1), 3);
    // Grafted at once: 3 comes under 2, ahead of the arc from 1 to 3.
    due("above(0, 3)", x.above(0, 3), 2);
    due("count(3)", x.count(3), 8);
    due("count(7)", x.count(7), 4);
    ReachTrees y = full();
    due("count(1)", y.count(1), 40);
    due("put(6, 5)", y.put(6, 5), ReachTrees.FULL);
    due("put(0, 1)", y.put(0, 1), ReachTrees.NOT);
    due("put(0, 7)", y.put(0, 7), ReachTrees.UNKNOWN);
    due("take(1, 2)", y.take(1, 2), 1);
    due("put(6, 5)", y.put(6, 5), 0);
  }

  private static void takes() {
    promise = 7;
    ReachTrees x = told("net 5;path 0 1 2;path 0 3 2;arc 2 4");
    due("take(32, 1)", x.take(32, 1), ReachTrees.OUTSIDE);
    due("take(1, 32)", x.take(1, 32), ReachTrees.OUTSIDE);
    due("take(-1, 1)", x.take(-1, 1), ReachTrees.OUTSIDE);
    due("take(0, 31)", x.take(0, 31), ReachTrees.NOT);
    due("take(31, 0)", x.take(31, 0), ReachTrees.NOT);
    due("take(16, 31)", x.take(16, 31), ReachTrees.NOT);
    due("above(0, 2)", x.above(0, 2), 1);
    int work = x.count(3);
    // 3 to 2 bears nothing but the tree of 3: that of 0 stays.
    due("take(8, 4)", x.take(8, 4), 1);
    due("count(3)", x.count(3), work);
    due("around(3, 0)", x.around(3, 0), 8);
    due("around(0, 0)", x.around(0, 0), 31);
    x.undo();
    due("take(2, 31)", x.take(2, 31), 1);
    due("above(0, 2)", x.above(0, 2), 3);
    due("above(0, 4)", x.above(0, 4), 2);
    // The tree of 0 anew looks at 0 1, 0 3, 3 2, 2 4; that of 1 at nothing.
    due("count(3)", x.count(3), work + 4);
    due("take(31, 31)", x.take(31, 31), 4);
    due("count(1)", x.count(1), 0);
    due("count(2)", x.count(2), 0);
  }

  private static void clears() {
    promise = 8;
    ReachTrees x = new ReachTrees();
    due("clear()", x.clear(), ReachTrees.NOT);
    due("count(7)", x.count(7), 0);
    x.put(0, 1);
    x.put(1, 2);
    due("clear()", x.clear(), 3);
    due("count(3)", x.count(3), 0);
    due("count(1)", x.count(1), 2);
    due("count(7)", x.count(7), 3);
    due("clear()", x.clear(), ReachTrees.NOT);
    due("count(7)", x.count(7), 3);
  }

  private static void undoes() {
    promise = 9;
    ReachTrees x = told("net 10");
    due("undo()", x.undo(), ReachTrees.NOT);
    for (int p = 0; p < 9; p++) {
      x.put(p, p + 1);
    }
    due("count(7)", x.count(7), 8);
    int work = x.count(3);
    x.take(16, 32);
    x.put(4, 6);
    due("above(0, 6)", x.above(0, 6), 4);
    due("undo()", x.undo(), 7);
    due("undo()", x.undo(), 6);
    due("above(0, 6)", x.above(0, 6), 5);
    due("count(3)", x.count(3), work);
    for (int left = 5; left >= 0; left--) {
      due("undo()", x.undo(), left);
    }
    due("undo()", x.undo(), ReachTrees.NOT);
    due("count(1)", x.count(1), 3);
    x.clear();
    due("undo()", x.undo(), 0);
    due("count(3)", x.count(3), 6);
    x.put(0, 1);
    due("count(7)", x.count(7), 0);
  }

  private static void keeps() {
    promise = 10;
    ReachTrees x = new ReachTrees();
    due("keep(-1)", x.keep(-1), ReachTrees.UNKNOWN);
    due("keep(2)", x.keep(2), ReachTrees.UNKNOWN);
    x.put(0, 1);
    due("keep(0)", x.keep(0), 1);
    x.put(1, 2);
    due("keep(1)", x.keep(1), 2);
    x.put(2, 3);
    due("keep(0)", x.keep(0), 3);
    due("count(7)", x.count(7), 3);
    x.undo();
    x.undo();
    due("back(0)", x.back(0), 3);
    due("back(1)", x.back(1), 2);
    due("reaches(0, 2)", x.reaches(0, 2), 1);
    due("reaches(0, 3)", x.reaches(0, 3), 0);
  }

  private static void backs() {
    promise = 11;
    ReachTrees x = new ReachTrees();
    due("back(-1)", x.back(-1), ReachTrees.UNKNOWN);
    due("back(2)", x.back(2), ReachTrees.UNKNOWN);
    due("back(0)", x.back(0), ReachTrees.NOT);
    x.put(0, 1);
    x.put(1, 2);
    x.put(0, 2);
    x.keep(1);
    due("back(0)", x.back(0), ReachTrees.NOT);
    due("count(7)", x.count(7), 3);
    x.take(15, 15);
    x.clear();
    x.chain(2);
    due("back(1)", x.back(1), 3);
    due("count(7)", x.count(7), 0);
    due("count(3)", x.count(3), 4);
    due("above(0, 2)", x.above(0, 2), 1);
    due("drop(2)", x.drop(2), 0);
    x.take(15, 15);
    due("back(1)", x.back(1), 3);
    due("undo()", x.undo(), ReachTrees.NOT);
  }

  private static void looks() {
    ReachTrees x = told("net 6;path 0 1 2;ring 2 3 4");
    promise = 12;
    due("arc(0, 1)", x.arc(0, 1), 1);
    due("arc(1, 0)", x.arc(1, 0), 0);
    due("arc(0, 0)", x.arc(0, 0), ReachTrees.UNKNOWN);
    due("arc(-1, 0)", x.arc(-1, 0), ReachTrees.UNKNOWN);
    due("arc(0, 6)", x.arc(0, 6), ReachTrees.UNKNOWN);
    promise = 13;
    due("reaches(0, 4)", x.reaches(0, 4), 1);
    due("reaches(4, 0)", x.reaches(4, 0), 0);
    due("reaches(5, 5)", x.reaches(5, 5), 1);
    due("reaches(6, 6)", x.reaches(6, 6), ReachTrees.UNKNOWN);
    due("reaches(0, -1)", x.reaches(0, -1), ReachTrees.UNKNOWN);
    promise = 14;
    due("above(0, 4)", x.above(0, 4), 3);
    due("above(3, 2)", x.above(3, 2), 4);
    due("above(0, 0)", x.above(0, 0), ReachTrees.NONE);
    due("above(2, 2)", x.above(2, 2), ReachTrees.NONE);
    due("above(0, 5)", x.above(0, 5), ReachTrees.NONE);
    due("above(6, 0)", x.above(6, 0), ReachTrees.UNKNOWN);
    due("above(0, -1)", x.above(0, -1), ReachTrees.UNKNOWN);
    promise = 15;
    for (int k = 0; k < 5; k++) {
      due("way(0, 4, " + k + ")", x.way(0, 4, k), k);
    }
    due("way(0, 4, 5)", x.way(0, 4, 5), ReachTrees.NONE);
    due("way(0, 4, max)", x.way(0, 4, Integer.MAX_VALUE), ReachTrees.NONE);
    due("way(3, 2, 1)", x.way(3, 2, 1), 4);
    due("way(5, 5, 0)", x.way(5, 5, 0), 5);
    due("way(5, 5, 1)", x.way(5, 5, 1), ReachTrees.NONE);
    due("way(4, 0, 0)", x.way(4, 0, 0), ReachTrees.NONE);
    due("way(0, 4, -1)", x.way(0, 4, -1), ReachTrees.OUTSIDE);
    due("way(6, 4, -1)", x.way(6, 4, -1), ReachTrees.UNKNOWN);
    promise = 16;
    due("around(2, 0)", x.around(2, 0), 28);
    due("around(2, 1)", x.around(2, 1), 31);
    due("around(2, 2)", x.around(2, 2), 28);
    due("around(5, 2)", x.around(5, 2), 32);
    due("around(2, 3)", x.around(2, 3), ReachTrees.OUTSIDE);
    due("around(2, -1)", x.around(2, -1), ReachTrees.OUTSIDE);
    due("around(6, 3)", x.around(6, 3), ReachTrees.UNKNOWN);
  }

  private static void needs() {
    promise = 17;
    ReachTrees x = told("net 5;path 0 1 2;arc 0 2;arc 2 3");
    due("needless(0, 2)", x.needless(0, 2), 1);
    due("needless(0, 1)", x.needless(0, 1), 0);
    due("needless(2, 3)", x.needless(2, 3), 0);
    due("needless(3, 2)", x.needless(3, 2), ReachTrees.UNKNOWN);
    due("needless(0, 0)", x.needless(0, 0), ReachTrees.UNKNOWN);
    due("needless(0, 5)", x.needless(0, 5), ReachTrees.UNKNOWN);
    promise = 18;
    due("reduced()", x.reduced(), 3);
    x.put(3, 2);
    due("reduced()", x.reduced(), ReachTrees.NOT);
    x.undo();
    x.put(0, 3);
    due("reduced()", x.reduced(), 3);
    promise = 19;
    // 0 to 1, 2, 3; 1 to 2, 3; 2 to 3.
    due("fold(0, 10)", x.fold(0, 10), 16);
    due("fold(0, 999)", x.fold(0, 999), 1005);
    due("fold(1, 0)", x.fold(1, 0), 18);
    due("fold(2, 0)", x.fold(2, 0), 23);
    due("fold(2, 24)", x.fold(2, 24), 24);
    due("fold(-1, 0)", x.fold(-1, 0), ReachTrees.OUTSIDE);
    due("fold(4, 0)", x.fold(4, 0), ReachTrees.OUTSIDE);
    due("fold(0, -1)", x.fold(0, -1), ReachTrees.OUTSIDE);
    due("fold(0, 1000)", x.fold(0, 1000), ReachTrees.OUTSIDE);
    ReachTrees y = told("net 2;arc 1 0");
    due("fold(3, 700)", y.fold(3, 700), 801);
    due("fold(3, 999)", y.fold(3, 999), 997);
  }

  private static void gains() {
    promise = 20;
    ReachTrees x = told("net 5;path 0 1 2;star 3 4 1");
    // 2 to 3: the trees of 0, 1, 2 get 3, 4 and (the last one) 1; that of 3 has 2.
    due("gain(2, 3, 0)", x.gain(2, 3, 0), 7);
    // Four trees; 3 has two arcs, three times; 1 has one arc, once.
    due("gain(2, 3, 1)", x.gain(2, 3, 1), 11);
    due("gain(0, 2, 0)", x.gain(0, 2, 0), 0);
    due("gain(0, 2, 1)", x.gain(0, 2, 1), 1);
    due("gain(0, 1, 0)", x.gain(0, 1, 0), ReachTrees.NOT);
    due("gain(0, 1, 2)", x.gain(0, 1, 2), ReachTrees.OUTSIDE);
    due("gain(0, 2, -1)", x.gain(0, 2, -1), ReachTrees.OUTSIDE);
    due("gain(0, 0, 2)", x.gain(0, 0, 2), ReachTrees.UNKNOWN);
    due("gain(0, 5, 0)", x.gain(0, 5, 0), ReachTrees.UNKNOWN);
    due("count(1)", x.count(1), 4);
    int work = x.count(3);
    due("put(2, 3)", x.put(2, 3), 7);
    due("count(3)", x.count(3), work + 11);
    promise = 21;
    ReachTrees y = told("net 5;path 0 1 2;arc 3 4");
    due("best()", y.best(), 23);
    due("best()", full().best(), 64);
    ReachTrees z = told("net 2;arc 0 1");
    due("best()", z.best(), 10);
    z.put(1, 0);
    due("best()", z.best(), ReachTrees.NONE);
    due("best()", new ReachTrees().best(), 1);
  }

  private static void losses() {
    promise = 22;
    ReachTrees x = told("net 5;path 0 1 2;arc 0 2;path 2 3 4");
    int work = x.count(3);
    due("loss(0, 1)", x.loss(0, 1), 1);
    due("loss(0, 2)", x.loss(0, 2), 0);
    due("loss(1, 2)", x.loss(1, 2), 3);
    due("loss(2, 3)", x.loss(2, 3), 6);
    due("loss(3, 4)", x.loss(3, 4), 4);
    due("loss(4, 3)", x.loss(4, 3), ReachTrees.UNKNOWN);
    due("loss(3, 3)", x.loss(3, 3), ReachTrees.UNKNOWN);
    due("loss(5, 0)", x.loss(5, 0), ReachTrees.UNKNOWN);
    promise = 23;
    due("worst()", x.worst(), 23);
    due("count(3)", x.count(3), work);
    due("worst()", new ReachTrees().worst(), ReachTrees.NONE);
    due("worst()", told("arc 3 2;arc 2 0").worst(), 20);
    due("worst()", told("arc 3 0;arc 2 1").worst(), 21);
    due("worst()", told("arc 0 1;arc 1 2;arc 0 2;arc 2 0").worst(), 20);
    promise = 24;
    due("sever(0, 2)", x.sever(0, 2), 2);
    due("sever(0, 4)", x.sever(0, 4), 1);
    due("sever(4, 0)", x.sever(4, 0), 0);
    due("sever(0, 0)", x.sever(0, 0), ReachTrees.UNKNOWN);
    due("sever(0, 5)", x.sever(0, 5), ReachTrees.UNKNOWN);
    due("sever(0, 1)", full().sever(0, 1), 6);
    // A first way by 1 and 4 must be led back, for two ways to be found.
    due("sever(0, 5)", told("net 6;path 0 1 4;arc 4 5;path 0 2 4;path 1 3 5").sever(0, 5), 2);
  }

  private static void chainBegins() {
    promise = 25;
    ReachTrees x = new ReachTrees();
    due("chain(-1)", x.chain(-1), ReachTrees.UNKNOWN);
    due("chain(3)", x.chain(3), ReachTrees.UNKNOWN);
    due("chain(2)", x.chain(2), 0);
    x.add(2, 0, 0, 4);
    due("chain(2)", x.chain(2), 0);
    due("sum(2, 2)", x.sum(2, 2), 500000);
    due("count(6)", x.count(6), 0);
  }

  private static void chainAdds() {
    promise = 26;
    ReachTrees x = new ReachTrees();
    due("add(3, 0, 0, 1)", x.add(3, 0, 0, 1), ReachTrees.UNKNOWN);
    due("add(-1, 5, 5, 1)", x.add(-1, 5, 5, 1), ReachTrees.UNKNOWN);
    due("add(0, 1, 5, 11)", x.add(0, 1, 5, 11), ReachTrees.UNKNOWN);
    due("add(0, 1, 0, 40)", x.add(0, 1, 0, 40), ReachTrees.UNKNOWN);
    due("add(0, 1, 0, 100)", x.add(0, 1, 0, 100), ReachTrees.UNKNOWN);
    due("add(0, 1, 0, -10)", x.add(0, 1, 0, -10), ReachTrees.UNKNOWN);
    due("add(0, 1, 0, 0)", x.add(0, 1, 0, 0), ReachTrees.UNKNOWN);
    due("add(0, 2, 0, 1)", x.add(0, 2, 0, 1), ReachTrees.OUTSIDE);
    due("add(0, -1, 0, 1)", x.add(0, -1, 0, 1), ReachTrees.OUTSIDE);
    due("add(0, 0, -1, 1)", x.add(0, 0, -1, 1), ReachTrees.OUTSIDE);
    due("add(0, 1, 2, 1)", x.add(0, 1, 2, 1), ReachTrees.OUTSIDE);
    due("add(0, 0, 0, -10000)", x.add(0, 0, 0, -10000), ReachTrees.OUTSIDE);
    due("add(0, 0, 0, 10000)", x.add(0, 0, 0, 10000), ReachTrees.OUTSIDE);
    due("add(0, 0, 0, 1)", x.add(0, 0, 0, 1), ReachTrees.NULL);
    x.chain(0);
    due("add(0, 0, 1, 9999)", x.add(0, 0, 1, 9999), 1);
    due("add(0, 1, 1, 32)", x.add(0, 1, 1, 32), 2);
    due("add(0, 0, 0, -9999)", x.add(0, 0, 0, -9999), 3);
    for (int size = 4; size <= 8; size++) {
      due("add(0, 0, 0, 0)", x.add(0, 0, 0, 0), size);
    }
    due("add(0, 0, 0, 0)", x.add(0, 0, 0, 0), ReachTrees.ROOM);
    due("add(0, 0, 2, 0)", x.add(0, 0, 2, 0), ReachTrees.OUTSIDE);
    due("last(0, 1)", x.last(0, 1), 32);
    due("last(0, 0)", x.last(0, 0), 59999);
    due("last(0, 0)", x.last(0, 0), 40001);
  }

  private static void chainLasts() {
    promise = 27;
    ReachTrees x = new ReachTrees();
    due("last(3, 0)", x.last(3, 0), ReachTrees.UNKNOWN);
    due("last(0, 2)", x.last(0, 2), ReachTrees.OUTSIDE);
    due("last(0, -1)", x.last(0, -1), ReachTrees.OUTSIDE);
    due("last(0, 0)", x.last(0, 0), ReachTrees.NULL);
    x.chain(0);
    due("last(0, 1)", x.last(0, 1), ReachTrees.EMPTY);
    x.add(0, 1, 1, 1);
    x.add(0, 0, 1, 1);
    due("last(0, 1)", x.last(0, 1), ReachTrees.CAST);
    due("last(0, 0)", x.last(0, 0), 50001);
    due("last(0, 0)", x.last(0, 0), ReachTrees.CAST);
    due("last(0, 1)", x.last(0, 1), 1);
    due("last(0, 0)", x.last(0, 0), ReachTrees.EMPTY);
  }

  private static void chainSums() {
    promise = 28;
    ReachTrees x = new ReachTrees();
    due("sum(3, 0)", x.sum(3, 0), ReachTrees.UNKNOWN);
    due("sum(1, 3)", x.sum(1, 3), ReachTrees.OUTSIDE);
    due("sum(1, -1)", x.sum(1, -1), ReachTrees.OUTSIDE);
    due("sum(1, 0)", x.sum(1, 0), ReachTrees.NULL);
    x.chain(1);
    due("sum(1, 0)", x.sum(1, 0), 500000);
    x.add(1, 0, 1, -500);
    x.add(1, 1, 1, 31);
    x.add(1, 1, 1, 2);
    due("sum(1, 0)", x.sum(1, 0), 499500);
    due("sum(1, 1)", x.sum(1, 1), 500033);
    due("sum(1, 2)", x.sum(1, 2), 499533);
  }

  private static void chainStrikes() {
    promise = 29;
    ReachTrees x = new ReachTrees();
    due("strike(3, 0)", x.strike(3, 0), ReachTrees.UNKNOWN);
    due("strike(1, 2)", x.strike(1, 2), ReachTrees.OUTSIDE);
    due("strike(1, -1)", x.strike(1, -1), ReachTrees.OUTSIDE);
    due("strike(1, 0)", x.strike(1, 0), ReachTrees.NULL);
    x.chain(1);
    due("strike(1, 0)", x.strike(1, 0), 0);
    x.put(0, 1);
    x.add(1, 0, 1, 1);
    x.add(1, 1, 1, 1);
    x.add(1, 1, 1, 10);
    x.add(1, 1, 1, 1);
    x.add(1, 0, 1, 10);
    due("strike(1, 1)", x.strike(1, 1), 2);
    due("strike(1, 1)", x.strike(1, 1), 0);
    due("sum(1, 0)", x.sum(1, 0), 500011);
    due("sum(1, 1)", x.sum(1, 1), 500010);
    due("strike(1, 0)", x.strike(1, 0), 1);
    due("last(1, 0)", x.last(1, 0), 50010);
    due("last(1, 0)", x.last(1, 0), 50001);
  }

  private static void chainAppends() {
    promise = 30;
    ReachTrees x = new ReachTrees();
    due("append(3, 0)", x.append(3, 0), ReachTrees.UNKNOWN);
    due("append(0, -1)", x.append(0, -1), ReachTrees.UNKNOWN);
    x.chain(0);
    due("append(0, 1)", x.append(0, 1), ReachTrees.NULL);
    due("append(1, 0)", x.append(1, 0), ReachTrees.NULL);
    x.chain(1);
    due("append(0, 1)", x.append(0, 1), 0);
    x.add(0, 0, 1, 1);
    x.add(0, 1, 1, 2);
    x.add(1, 0, 1, 3);
    due("append(0, 1)", x.append(0, 1), 3);
    due("sum(0, 2)", x.sum(0, 2), 500003);
    due("last(1, 1)", x.last(1, 1), 2);
    due("last(1, 0)", x.last(1, 0), 50001);
    due("last(1, 0)", x.last(1, 0), 50003);
    due("append(0, 0)", x.append(0, 0), 4);
    due("append(0, 0)", x.append(0, 0), 8);
    due("append(0, 0)", x.append(0, 0), ReachTrees.ROOM);
    due("append(0, 1)", x.append(0, 1), 8);
    due("append(0, 1)", x.append(0, 1), ReachTrees.ROOM);
    due("count(6)", x.count(6), 16);
  }

  private static void chainDrops() {
    promise = 31;
    ReachTrees x = new ReachTrees();
    due("drop(3)", x.drop(3), ReachTrees.UNKNOWN);
    due("drop(-1)", x.drop(-1), ReachTrees.UNKNOWN);
    due("drop(1)", x.drop(1), ReachTrees.NULL);
    x.chain(1);
    due("drop(1)", x.drop(1), 0);
    x.chain(1);
    x.add(1, 0, 0, 1);
    x.add(1, 0, 0, 1);
    due("drop(1)", x.drop(1), 2);
    due("count(6)", x.count(6), 0);
    due("drop(1)", x.drop(1), ReachTrees.NULL);
    x.chain(1);
    due("last(1, 0)", x.last(1, 0), ReachTrees.EMPTY);
  }

  private static void counts() {
    promise = 32;
    ReachTrees x = told("net 6;ring 0 1 2;arc 2 3;arc 0 3;arc 4 5");
    x.put(5, 4);
    x.clear();
    x.put(4, 3);
    x.chain(0);
    x.chain(2);
    x.add(0, 0, 0, 1);
    x.add(2, 1, 0, 1);
    write(x, "abc");
    // 0, 1, 2 to one another and to 3; 4, 5 to one another and to 3. Either of 0 3, 2 3 would do.
    int[] counts = {6, 8, 13, 2, 3, 2, 2, 3, 3};
    for (int i = 0; i < counts.length; i++) {
      due("count(" + i + ")", x.count(i), counts[i]);
    }
    due("count(-1)", x.count(-1), ReachTrees.OUTSIDE);
    due("count(9)", x.count(9), ReachTrees.OUTSIDE);
  }

  public static void main(String[] args) {
    newObject();
    writing();
    erasing();
    faults();
    nets();
    puts();
    takes();
    clears();
    undoes();
    keeps();
    backs();
    looks();
    needs();
    gains();
    losses();
    chainBegins();
    chainAdds();
    chainLasts();
    chainSums();
    chainStrikes();
    chainAppends();
    chainDrops();
    counts();
    System.out.println(wrong == 0 ? "all answers are as due" : wrong + " answers are not as due");
    if (wrong != 0) {
      System.exit(1);
    }
  }
}
