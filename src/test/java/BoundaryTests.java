import java.util.ArrayList;
import java.util.HashMap;
import java.util.List;
import java.util.Map;

/**
 * Each sentence of the document that names a boundary has a test of its own here: the last input that is taken,
 * the first that is refused, on both sides where there are two, and that a refused call has changed nothing.
 * What is due is written out by hand from the document.
 */
public final class BoundaryTests {
  private static final int NONE = -1, UNKNOWN = -2, OUTSIDE = -3, NOT = -4, FULL = -5;
  private static final int NULL = -11, EMPTY = -12, CAST = -13, ROOM = -14;
  private static final int MIN = Integer.MIN_VALUE, MAX = Integer.MAX_VALUE;

  /** Something of all: arcs, work, five to be undone, two kept nets, chains, a text that has its end too soon. */
  private static final String SOME = "text net 6;ring 0 1 2;path 2 3 4 | net | put 4 5 | keep 0 | put 0 5 | clear"
      + " | put 5 0 | keep 1 | take 4 8 | chain 0 | chain 1 | add 0 0 1 7 | add 0 1 1 12 | add 1 1 0 50 | text arc 0";

  private static final Map<String, List<Integer>> READINGS = new HashMap<>();
  private static String sentence = "";
  private static int wrong = 0;
  private static int tests = 0;

  private static void sentence(String words) {
    sentence = words;
  }

  private static void report(String what) {
    wrong++;
    System.out.println(sentence + ": " + what);
  }

  private static void due(String state, String call, int got, int want) {
    tests++;
    if (got != want) report("behind '" + state + "' " + call + " answered " + got + ", due is " + want);
  }

  private static int[] one(String call) {
    List<int[]> read = Calls.read(call);
    if (read.size() != 1) throw new IllegalStateException("not one call: " + call);
    return read.get(0);
  }

  /** On a new object, behind the calls of the state, the call is answered so. */
  private static void taken(String state, String call, int want) {
    due(state, call, Calls.make(Calls.made(Calls.read(state)), one(call)), want);
  }

  /** As taken(), with an answer that refuses: and then all is as it was, the call is refused again. */
  private static void refused(String state, String call, int want) {
    List<int[]> run = Calls.read(state);
    List<Integer> reading = READINGS.computeIfAbsent(state, s -> Reading.of(Calls.read(s)));
    ReachTrees x = Calls.made(run);
    due(state, call, Calls.make(x, one(call)), want);
    due(state, call + " again", Calls.make(x, one(call)), want);
    run.add(one(call));
    tests++;
    if (!Reading.of(run).equals(reading)) report("behind '" + state + "' " + call + " changed something");
  }

  /** Calls on one object, each with what it answers: "put 0 1", 1, "put 0 1", NOT, .. */
  private static void inTurn(String state, Object... callsAndAnswers) {
    ReachTrees x = Calls.made(Calls.read(state));
    StringBuilder behind = new StringBuilder(state);
    for (int i = 0; i < callsAndAnswers.length; i += 2) {
      String call = (String) callsAndAnswers[i];
      int answer = 0;
      for (int[] c : Calls.read(call)) answer = Calls.make(x, c);
      due(behind.toString(), call, answer, (Integer) callsAndAnswers[i + 1]);
      behind.append(behind.length() == 0 ? "" : " | ").append(call);
    }
  }

  private static String then(String state, String more) {
    return state.isEmpty() ? more : more.isEmpty() ? state : state + " | " + more;
  }

  private static String told(String text) {
    return "text " + text + " | net";
  }

  /** A text with a fault is refused by net(), one without is done. */
  private static void faultOf(String state, String text, int want) {
    String written = then(state, text.isEmpty() ? "" : "text " + text);
    taken(written, "fault", want);
    if (want != NONE) refused(written, "net", NOT);
  }

  private static void noFault(String state, String text, int clauses) {
    String written = then(state, "text " + text);
    inTurn(written, "fault", NONE, "net", clauses, "count 8", 0);
  }

  /** Arcs in order among n points. */
  private static String arcs(int n, int howMany) {
    StringBuilder puts = new StringBuilder();
    int arcs = 0;
    for (int u = 0; u < n; u++) {
      for (int v = 0; v < n; v++) {
        if (u != v && arcs < howMany) {
          puts.append(arcs == 0 ? "" : " | ").append("put ").append(u).append(' ').append(v);
          arcs++;
        }
      }
    }
    return puts.toString();
  }

  /** Seven points have 42 arcs; 64 and 65 are the last two in order. */
  private static String sevenWith(int howMany) {
    return then(told("net 7"), arcs(7, howMany));
  }

  private static String repeated(String call, int times) {
    return (call + " | ").repeat(times - 1) + call;
  }

  // ---- section 1

  private static void pointsOfANet() {
    sentence("POINTS 0 .. n less 1 (n 2 .. 10)");
    for (int n = 2; n <= 10; n++) inTurn(told("net " + n), "count 0", n, "count 4", n, "count 1", 0);
    noFault("", "net 2", 1);
    noFault("", "net 10", 1);
    noFault("", "net 02", 1);
    for (String n : new String[] {"0", "00", "1", "01", "11", "12", "20", "99"}) faultOf("", "net " + n, 4);
    sentence("(n ..; 4 at first) and ARCS (none at first), WORK is 0 at first");
    inTurn("", "count 0", 4, "count 1", 0, "count 2", 0, "count 3", 0, "count 4", 4, "count 5", 0, "count 6", 0,
        "count 7", 0, "count 8", 0);
  }

  /** With what a call answers for the last point; a point below 0 or beyond the last is unknown in each place. */
  private static void noSuchPoint() {
    sentence("UNKNOWN (no such POINT)");
    for (int n : new int[] {2, 4, 10}) {
      // A ring through all points, with the arc from the last one to 0 put in at the end.
      StringBuilder state = new StringBuilder(told("net " + n));
      for (int p = 0; p < n; p++) state.append(" | put ").append(p).append(' ').append((p + 1) % n);
      int last = n - 1;
      int before = n - 2;
      String ring = state.toString();
      taken(ring, "arc " + before + " " + last, 1);
      taken(ring, "reaches " + last + " " + last, 1);
      taken(ring, "above 0 " + last, before);
      taken(ring, "way 0 " + last + " " + last, last);
      taken(ring, "around " + last + " 0", (1 << n) - 1);
      taken(ring, "needless " + before + " " + last, 0);
      taken(ring, "loss " + last + " 0", n * (n - 1) / 2);
      taken(ring, "sever " + last + " 0", 1);
      taken(told("net " + n), "gain " + last + " 0 0", 1);
      taken(told("net " + n), "put " + last + " 0", 1);
      taken(told("net " + n) + " | chain 0", "add 0 1 1 " + (10 * last), 1);
      for (int no : new int[] {MIN, -1, n, n + 1, 32, MAX}) {
        for (String call : new String[] {"put", "arc", "reaches", "above", "needless", "loss", "sever"}) {
          refused(ring, call + " " + no + " 0", UNKNOWN);
          refused(ring, call + " 0 " + no, UNKNOWN);
          refused(ring, call + " " + no + " " + no, UNKNOWN);
        }
        for (String call : new String[] {"way", "gain"}) {
          refused(ring, call + " " + no + " 0 0", UNKNOWN);
          refused(ring, call + " 0 " + no + " 0", UNKNOWN);
        }
        refused(ring, "around " + no + " 0", UNKNOWN);
      }
    }
  }

  private static void twoTheSame() {
    sentence("UNKNOWN (two that are the same, where two POINTS are asked)");
    for (String call : new String[] {"put", "arc", "needless", "loss", "sever"}) {
      refused(SOME, call + " 0 0", UNKNOWN);
      refused(SOME, call + " 5 5", UNKNOWN);
    }
    refused(SOME, "gain 0 0 0", UNKNOWN);
    refused(SOME, "gain 5 5 1", UNKNOWN);
    sentence("UNKNOWN (u may be v; s may be v)");
    taken(SOME, "reaches 3 3", 1);
    taken(SOME, "above 3 3", NONE);
    taken(SOME, "way 3 3 0", 3);
    taken(SOME, "way 3 3 1", NONE);
  }

  private static void fortyArcs() {
    sentence("ARCS, 40 at most");
    inTurn(sevenWith(39), "count 1", 39, "put 6 4", 0, "count 1", 40, "put 6 5", FULL, "count 1", 40, "take 64 8", NOT,
        "take 64 16", 1, "put 6 5", 0, "put 6 4", FULL);
    refused(sevenWith(40), "put 6 4", FULL);
    refused(sevenWith(40), "put 6 5", FULL);
    sentence("put: UNKNOWN; NOT: it is there; FULL: 40, the first that fits");
    refused(sevenWith(40), "put 0 1", NOT);
    refused(sevenWith(40), "put 6 3", NOT);
    refused(sevenWith(40), "put 6 6", UNKNOWN);
    refused(sevenWith(40), "put 6 7", UNKNOWN);
    refused(SOME, "put 0 1", NOT);
    sentence("ARCS, unlike ones: the other way round is another one");
    inTurn("", "put 0 1", 1, "put 0 1", NOT, "put 1 0", 1, "put 1 0", NOT, "count 1", 2);
  }

  private static void textArcsWhenFull() {
    sentence("each is put in, in this order, if it is not there and there are fewer than 40");
    // Nine points, so that a ring of three new arcs is free.
    String nine = told("net 9");
    String at37 = then(nine, arcs(9, 37));
    String at38 = then(nine, arcs(9, 38));
    String at39 = then(nine, arcs(9, 39));
    String at40 = then(nine, arcs(9, 40));
    inTurn(then(at37, told("ring 6 7 8")), "count 1", 40, "arc 6 7", 1, "arc 7 8", 1, "arc 8 6", 1);
    inTurn(then(at38, told("ring 6 7 8")), "count 1", 40, "arc 6 7", 1, "arc 7 8", 1, "arc 8 6", 0);
    inTurn(then(at39, told("ring 6 7 8")), "count 1", 40, "arc 6 7", 1, "arc 7 8", 0, "arc 8 6", 0);
    inTurn(then(at40, told("ring 6 7 8")), "count 1", 40, "arc 6 7", 0, "arc 7 8", 0, "arc 8 6", 0);
    inTurn(then(at38, told("path 6 7 8")), "count 1", 40, "arc 6 7", 1, "arc 7 8", 1);
    inTurn(then(at39, told("path 6 7 8")), "count 1", 40, "arc 6 7", 1, "arc 7 8", 0);
    inTurn(then(at40, told("path 6 7 8")), "count 1", 40, "arc 6 7", 0, "arc 7 8", 0);
    inTurn(then(at38, told("star 8 7 6")), "count 1", 40, "arc 8 7", 1, "arc 8 6", 1);
    inTurn(then(at39, told("star 8 7 6")), "count 1", 40, "arc 8 7", 1, "arc 8 6", 0);
    inTurn(then(at39, told("arc 8 7")), "count 1", 40, "arc 8 7", 1);
    inTurn(then(at40, told("arc 8 7")), "count 1", 40, "arc 8 7", 0);
    // One that is there does not keep those behind it out.
    inTurn(then(at39, told("ring 0 1 8;arc 8 7")), "count 1", 40, "arc 8 0", 1, "arc 8 7", 0);
    inTurn(at40, "text star 8 6 7;net 3;ring 0 1 2", 27, "fault", NONE, "net", 3, "count 0", 3, "count 1", 3);
    sentence("if it is not there: WORK stays");
    inTurn(told("ring 0 1 2"), "count 3", 9, "text ring 0 1 2;path 1 2 0;star 0 1 2", 32, "net", 3, "count 1", 4,
        "count 3", 12);
  }

  private static void lettersOfTheText() {
    sentence("THE TEXT is a row of letters, 200 at most");
    String at199 = "text " + "a".repeat(199);
    String at200 = "text " + "a".repeat(200);
    taken(at199, "write 97", 200);
    refused(at200, "write 97", FULL);
    refused(at200, "write 0", FULL);
    refused(at200, "write 255", FULL);
    inTurn(at200, "count 8", 200, "write 97", FULL, "count 8", 200, "erase", 200, "write 97", 1);
    sentence("a letter (its number, 0 .. 255); OUTSIDE");
    taken("", "write 0", 1);
    taken("", "write 255", 1);
    for (int no : new int[] {MIN, -1, 256, MAX}) refused(SOME, "write " + no, OUTSIDE);
    sentence("write: OUTSIDE; FULL, the first that fits");
    refused(at200, "write -1", OUTSIDE);
    refused(at200, "write 256", OUTSIDE);
    sentence("a text of 200 letters is done");
    String long200 = "net 10;" + " ".repeat(186) + "arc 9 0";
    inTurn("", "text " + long200, 200, "fault", NONE, "write 32", FULL, "fault", NONE, "net", 2, "count 8", 0,
        "arc 9 0", 1, "write 32", 1);
    faultOf("", long200.substring(0, 199), 199);
    faultOf("", "arc 0 1;" + " ".repeat(184) + "arc 1 10", 198);
    sentence("erase: THE TEXT is empty: how many letters it had");
    inTurn("", "erase", 0, "erase", 0, "write 97", 1, "erase", 1, "erase", 0);
    inTurn(SOME, "erase", 5, "fault", 0, "count 1", 7, "count 7", 5, "count 6", 3, "back 0", 6);
  }

  private static void clausesOfTheText() {
    sentence("CLAUSES with ; between, 24 at most");
    String c24 = "net 2;".repeat(23) + "net 2";
    noFault("", c24, 24);
    noFault("", "net 2;".repeat(22) + "net 2", 23);
    noFault("", "arc 0 1;".repeat(23) + "arc 2 3", 24);
    faultOf("", c24 + ";net 2", 143);
    faultOf("", c24 + ";", 143);
    faultOf("", c24 + " ;", 144);
    faultOf("", c24 + "net 2", 143);
    inTurn("", "text " + c24, 143, "fault", NONE, "write 59", 144, "fault", 143, "net", NOT, "count 8", 144, "erase", 144);
    sentence("; between: not ahead of the first, not two, not behind the last");
    faultOf("", ";", 0);
    faultOf("", ";net 2", 0);
    faultOf("", "net 2;", 6);
    faultOf("", "net 2;;net 3", 6);
    faultOf("", "net 2 net 3", 6);
    faultOf("", "net 2,net 3", 5);
    sentence("THE TEXT without CLAUSES comes to its end too soon");
    faultOf("", "", 0);
    faultOf("", "   ", 3);
    refused(SOME + " | erase", "net", NOT);
  }

  private static void wordsAndSigns() {
    sentence("each is one of: net N. arc U V. ring U V W. path U V W. star U V W (as written here)");
    noFault("", "net 4;arc 0 1;ring 0 1 2;path 0 1 2;star 0 1 2", 5);
    for (String word : new String[] {"ne", "nets", "nett", "ar", "arcs", "rin", "rings", "pat", "paths", "sta", "stars",
        "a", "z", "netarc", "edge", "xet", "nxt", "nex", "xrc", "xing", "xath", "xtar", "stax"}) {
      faultOf("", word + " 2", 0);
    }
    for (String word : new String[] {"Net 4", "NET 4", "0 1", "12", ",", "."}) faultOf("", word, 0);
    faultOf("", "nEt 4", 0);
    faultOf("", "neT 4", 0);
    faultOf("", "net 4.", 5);
    sentence("small letters a .. z: the letters just beyond are TOKENS of their own");
    for (int sign : new int[] {'`', '{', '@', 'A', 'Z', '['}) {
      inTurn("text net | write " + sign + " | text  4", "fault", 3);
      inTurn("write " + sign + " | text net 4", "fault", 0);
    }
    for (int sign : new int[] {'a', 'z'}) inTurn("text net | write " + sign + " | text  4", "fault", 0);
    sentence("a row of digits: the letters just beyond 0 .. 9 are TOKENS of their own");
    for (int sign : new int[] {'/', ':'}) {
      inTurn("text arc 0 1 | write " + sign, "fault", 7);
      inTurn("text arc  | write " + sign + " | text 0 1", "fault", 4);
    }
    for (int sign : new int[] {'0', '9'}) inTurn("text arc 0 1 | write " + sign, "fault", 6);
    noFault(told("net 10"), "arc 0 9", 1);
    sentence("blanks between: no other letter is a blank");
    for (int sign : new int[] {0, 9, 10, 11, 12, 13, 31, 33, 95, 127, 128, 160, 254, 255}) {
      inTurn("text arc | write " + sign + " | text 0 1", "fault", 3, "net", NOT);
      inTurn("text arc 0 1 | write " + sign, "fault", 7, "net", NOT);
      inTurn("write " + sign, "fault", 0, "net", NOT);
    }
    noFault("", " arc 0 1", 1);
    noFault("", "arc   0   1", 1);
    noFault("", "arc 0 1   ", 1);
    noFault("", "arc 0 1 ; arc 1 0", 2);
    noFault("", "arc 0 1;  arc 1 0", 2);
  }

  private static void numbersOfTheText() {
    sentence("numbers of 1 or 2 digits; a number of more digits is a FAULT");
    noFault("", "arc 00 03", 1);
    noFault("", "net 02", 1);
    faultOf("", "net 002", 4);
    faultOf("", "net 010", 4);
    faultOf("", "arc 000 1", 4);
    faultOf("", "arc 0 001", 6);
    faultOf("", "net 99999999999999999999", 4);
    faultOf("", "net 4294967298", 4);
    faultOf("", "arc 0 " + "0".repeat(194), 6);
    sentence("a number out of its bounds is a FAULT (POINTS of the net as it is then)");
    noFault("", "arc 3 0", 1);
    faultOf("", "arc 4 0", 4);
    faultOf("", "arc 0 4", 6);
    faultOf("", "arc 0 10", 6);
    faultOf("", "arc 0 99", 6);
    for (String word : new String[] {"ring", "path", "star"}) {
      noFault("", word + " 3 2 1", 1);
      noFault("", word + " 1 2 3", 1);
      faultOf("", word + " 4 2 1", 5);
      faultOf("", word + " 3 4 1", 7);
      faultOf("", word + " 3 2 4", 9);
    }
    noFault("", "net 10;arc 9 0", 2);
    noFault("", "net 10;star 09 8 07", 2);
    faultOf("", "net 10;arc 10 0", 11);
    faultOf("", "net 9;arc 9 0", 10);
    noFault("", "net 2;arc 1 0", 2);
    faultOf("", "net 2;arc 2 0", 10);
    faultOf("", "net 2;ring 0 1 2", 15);
    faultOf("", "arc 0 4;net 5", 6);
    faultOf("", "net 5;net 3;arc 0 3", 18);
    noFault("", "net 3;net 5;arc 0 4", 3);
    noFault(told("net 6"), "arc 5 0", 1);
    faultOf(told("net 6"), "arc 6 0", 4);
    faultOf(told("net 2"), "arc 2 0", 4);
    sentence("a text that has a FAULT, or is erased, leaves the POINTS as they were");
    inTurn("text net 9;arc 9 0", "fault", 10, "net", NOT, "count 0", 4, "erase", 13, "text arc 0 8", 7, "fault", 6);
    inTurn("text net 9", "fault", NONE, "erase", 5, "text arc 0 8", 7, "fault", 6);
    sentence("a number like another one of its CLAUSE is a FAULT");
    faultOf("", "arc 0 0", 6);
    faultOf("", "arc 0 00", 6);
    faultOf("", "arc 03 3", 7);
    for (String word : new String[] {"ring", "path", "star"}) {
      faultOf("", word + " 0 0 1", 7);
      faultOf("", word + " 0 1 0", 9);
      faultOf("", word + " 0 1 1", 9);
      faultOf("", word + " 0 1 01", 9);
    }
    noFault("", "arc 0 1;arc 0 1;arc 1 0", 3);
  }

  private static void theFirstFault() {
    sentence("A FAULT is at the first TOKEN that cannot stand there");
    faultOf("", "net 1;net 1", 4);
    faultOf("", "arc 9 9", 4);
    faultOf("", "arc 0 0 0", 6);
    faultOf("", "net 4 4", 6);
    faultOf("", "arc 0 1 2", 8);
    faultOf("", "ring 0 1 2 3", 11);
    faultOf("", "path 0 1 2 3", 11);
    faultOf("", "star 0 1 2 3", 11);
    faultOf("", "arc arc 0", 4);
    faultOf("", "arc 0 arc", 6);
    faultOf("", "arc 0 1arc", 7);
    faultOf("", "arc 0,1", 5);
    faultOf("", "arc -1 0", 4);
    faultOf("", "arc ;0 1", 4);
    faultOf("", "arc 0;1", 5);
    sentence("or at the end, if it comes too soon (the length)");
    faultOf("", "net", 3);
    faultOf("", "net ", 4);
    faultOf("", "arc", 3);
    faultOf("", "arc 0", 5);
    faultOf("", "arc 0  ", 7);
    for (String word : new String[] {"ring", "path", "star"}) {
      faultOf("", word, 4);
      faultOf("", word + " 0", 6);
      faultOf("", word + " 0 1", 8);
    }
    faultOf("", "arc 0 1;", 8);
    faultOf("", "arc 0 1; ", 9);
    faultOf("", "arc 0 1;ring", 12);
    sentence("fault: NONE; nothing changes");
    inTurn(SOME + " | text  1", "fault", NONE, "fault", NONE, "count 8", 7, "count 1", 7, "count 7", 5, "count 6", 3);
    sentence("net: NOT: it has a FAULT");
    refused(SOME, "net", NOT);
    refused(SOME + " | text ;", "net", NOT);
    refused(SOME + " | text  1;arc 5 6", "net", NOT);
    inTurn(SOME, "net", NOT, "text  1", 7, "net", 1);
  }

  private static void whatTextsDo() {
    sentence("net: N POINTS, 2 to 10, all else as at first");
    inTurn(SOME + " | erase | text net 6", "net", 1, "count 0", 6, "count 1", 0, "count 2", 0, "count 3", 0, "count 4", 6,
        "count 5", 0, "count 6", 0, "count 7", 0, "count 8", 0, "above 0 1", NONE, "around 0 0", 1, "put 0 1", 1);
    sentence("CLAUSES are done in their order");
    inTurn(told("arc 0 1;net 3"), "count 1", 0, "count 3", 0, "arc 0 1", 0);
    inTurn(told("net 3;arc 0 1"), "count 1", 1, "count 3", 1, "arc 0 1", 1);
    sentence("ARCS from U to V, from V to W, and from W to U (ring); the first two (path); U to V, U to W (star)");
    inTurn(told("ring 3 1 2"), "count 1", 3, "arc 3 1", 1, "arc 1 2", 1, "arc 2 3", 1);
    inTurn(told("path 3 1 2"), "count 1", 2, "arc 3 1", 1, "arc 1 2", 1);
    inTurn(told("star 3 1 2"), "count 1", 2, "arc 3 1", 1, "arc 3 2", 1);
    // In a path the trees of both points grow when 1 2 comes; of a star only one.
    inTurn(told("path 3 1 2"), "count 3", 3, "above 3 2", 1);
    inTurn(told("star 3 1 2"), "count 3", 2, "above 3 2", 3);
    sentence("what was there stays");
    inTurn("put 3 2 | put 2 1 | text arc 1 0 | net", "count 1", 3, "count 3", 6, "above 3 1", 2, "way 3 0 3", 0);
    sentence("Behind them nothing is kept or can be undone; CHAINS are all missing");
    inTurn(SOME + " | chain 2 | add 2 0 0 1 | text  1", "net", 1, "count 7", 0, "count 6", 0, "undo", NOT, "back 0", NOT,
        "back 1", NOT, "drop 0", NULL, "drop 1", NULL, "drop 2", NULL, "count 1", 7);
    sentence("net: THE TEXT is empty then");
    inTurn("text net 3", "net", 1, "count 8", 0, "fault", 0, "net", NOT, "erase", 0);
  }

  // ---- section 2

  private static void work() {
    sentence("PUT IN: for each TREE in which u is WORK is 1 more; if v is not in that TREE, it is GRAFTED");
    inTurn("", "put 0 1", 1, "count 3", 1, "put 1 2", 2, "count 3", 3, "put 0 2", 0, "count 3", 4, "above 0 2", 1,
        "put 2 0", 3, "count 3", 4 + 1 + 3 + 4);
    sentence("that one is GRAFTED under it, at once, ahead of the next ARC");
    inTurn("put 1 2 | put 1 3 | put 2 3", "above 1 3", 1, "put 0 1", 3, "above 0 2", 1, "above 0 3", 2);
    sentence("TAKEN OUT: TREES that stood on none of these stay, WORK too");
    inTurn("put 0 1 | put 1 2 | put 0 2", "count 3", 4, "take 1 4", 1, "count 3", 4, "above 0 2", 1);
    sentence("the TREE is made ANEW: s alone, and then for each ARC from s, in ORDER");
    inTurn("put 0 1 | put 1 2 | put 0 2", "take 2 4", 1, "count 3", 4 + 2, "above 0 1", 0, "above 0 2", 0, "around 1 0", 2);
    // What stands behind the arc goes with it, and a tree that has lost all is its point alone.
    inTurn(told("path 0 1 2;arc 2 3"), "take 1 2", 1, "around 0 0", 1, "above 0 1", NONE, "above 0 3", NONE,
        "around 1 0", 14, "count 2", 3);
    sentence("each point enters each tree once: in a ring of all points the tree of each has all");
    inTurn(told("net 10;path 0 1 2;path 2 3 4;path 4 5 6;path 6 7 8"), "put 8 9", 9, "put 9 0", 45, "count 2", 90,
        "count 4", 1, "put 0 9", 0, "count 2", 90);
  }

  private static void takes() {
    sentence("take: OUTSIDE: a set has other bits than POINTS'");
    for (int n : new int[] {2, 4, 10}) {
      int all = (1 << n) - 1;
      String state = told("net " + n + ";arc 0 1");
      taken(state, "take " + all + " " + all, 1);
      for (int no : new int[] {MIN, -1, 1 << n, all + 1 + 1, 1 << 10, 1 << 30, MAX, ~all, -2}) {
        refused(state, "take " + no + " " + all, OUTSIDE);
        refused(state, "take " + all + " " + no, OUTSIDE);
        refused(state, "take " + no + " 0", OUTSIDE);
      }
    }
    sentence("take: NOT: none");
    refused(SOME, "take 0 0", NOT);
    refused(SOME, "take 63 0", NOT);
    refused(SOME, "take 0 63", NOT);
    refused(SOME, "take 1 1", NOT);
    refused(SOME, "take 8 4", NOT);
    refused("", "take 15 15", NOT);
    refused(told("net 10"), "take 1023 1023", NOT);
    sentence("all ARCS of which this set has FROM, and that one TO");
    inTurn(sevenWith(40), "take 127 127", 40, "count 1", 0, "count 2", 0, "take 127 127", NOT, "undo", 7, "count 1", 40);
    inTurn(SOME, "take 32 1", 1, "take 32 1", NOT);
    taken(told("net 10;arc 9 8"), "take 512 256", 1);
    refused(told("net 10;arc 9 8"), "take 256 512", NOT);
    refused(told("net 10;arc 9 8"), "take 511 1023", NOT);
  }

  private static void clears() {
    sentence("clear: NOT: none");
    refused("", "clear", NOT);
    refused("put 0 1 | clear", "clear", NOT);
    refused("keep 0 | put 0 1 | back 0", "clear", NOT);
    taken("put 0 1", "clear", 1);
    inTurn("put 0 1 | put 1 2", "clear", 3, "count 3", 0, "count 7", 3, "clear", NOT, "count 7", 3, "undo", 2, "count 3", 3);
  }

  private static void undoes() {
    sentence("undo: the last 8 can be");
    String calls = told("net 10");
    for (int p = 0; p < 7; p++) calls += " | put " + p + " " + (p + 1);
    inTurn(calls, "count 7", 7, "put 7 8", 8, "count 7", 8, "put 8 9", 9, "count 7", 8, "undo", 7, "undo", 6, "undo", 5,
        "undo", 4, "undo", 3, "undo", 2, "undo", 1, "undo", 0, "undo", NOT, "count 1", 1, "count 3", 1, "reaches 0 1", 1);
    inTurn(calls + " | put 7 8", "undo", 7, "undo", 6, "undo", 5, "undo", 4, "undo", 3, "undo", 2, "undo", 1, "undo", 0,
        "undo", NOT, "count 1", 0, "count 3", 0);
    sentence("undo: NOT: none");
    refused("", "undo", NOT);
    refused("put 0 1 | undo", "undo", NOT);
    refused("put 0 1 | keep 0 | back 0", "undo", NOT);
    refused("put 0 1 | text net 4 | net", "undo", NOT);
    refused(calls + " | put 7 8 | put 8 9 | " + repeated("undo", 8), "undo", NOT);
    sentence("The latest put(), take(), clear() is undone, TREES, WORK as ahead of it");
    inTurn("put 0 1 | put 1 2 | put 0 2 | take 2 4 | clear", "undo", 4, "count 3", 6, "above 0 2", 0, "undo", 3, "count 3", 4,
        "above 0 2", 1, "arc 1 2", 1, "around 1 0", 6, "undo", 2, "arc 0 2", 0, "count 3", 3);
    sentence("behind an undo() new ones are noted in the places that it left");
    inTurn(calls + " | put 7 8 | put 8 9 | undo | undo | undo", "count 7", 5, "put 9 0", 7, "count 7", 6, "put 9 1", 0,
        "put 9 2", 0, "count 7", 8, "put 9 3", 0, "count 7", 8, "undo", 7, "arc 9 3", 0, "arc 9 2", 1);
    sentence("what is refused, asked, kept, told or chained is not noted");
    inTurn("put 0 1", "put 0 1", NOT, "put 0 4", UNKNOWN, "take 2 1", NOT, "take 16 1", OUTSIDE, "keep 0", 1, "chain 0", 0,
        "add 0 0 0 1", 1, "best", 12, "worst", 1, "gain 1 2 0", 2, "loss 0 1", 1, "text x", 1, "net", NOT, "erase", 1,
        "count 7", 1, "undo", 0, "count 1", 0, "sum 0 0", 500001, "undo", NOT);
  }

  private static void keeps() {
    sentence("keep: (k 0, 1); UNKNOWN: no such k");
    taken(SOME, "keep 0", 7);
    taken(SOME, "keep 1", 7);
    for (int no : new int[] {MIN, -1, 2, 3, 32, 33, MAX}) refused(SOME, "keep " + no, UNKNOWN);
    inTurn(sevenWith(40), "keep 0", 40, "take 127 127", 40, "keep 1", 0, "back 0", 40, "back 1", 0);
    sentence("ARCS, TREES, WORK as they are now are kept");
    inTurn("put 0 1 | put 1 2 | put 0 2", "keep 1", 3, "take 15 15", 3, "clear", 4, "back 1", 3, "count 3", 4, "above 0 2", 1);
    sentence("back: UNKNOWN; NOT: nothing was kept since the last text, the first that fits");
    for (int no : new int[] {MIN, -1, 2, 32, 33, MAX}) {
      refused(SOME, "back " + no, UNKNOWN);
      refused("", "back " + no, UNKNOWN);
    }
    refused("put 0 1", "back 0", NOT);
    refused("put 0 1 | keep 0", "back 1", NOT);
    refused("put 0 1 | keep 1", "back 0", NOT);
    refused("put 0 1 | keep 0 | keep 1 | text arc 0 2 | net | put 1 2", "back 0", NOT);
    refused("put 0 1 | keep 0 | keep 1 | text arc 0 2 | net | put 1 2", "back 1", NOT);
    taken("keep 0", "back 0", 0);
    sentence("a text that was not done leaves what is kept");
    inTurn("put 0 1 | keep 0 | text net 1 | net | erase | text net 3 | fault | erase | put 1 2", "back 0", 1);
    sentence("It is as it was kept, nothing can be undone; it stays kept");
    inTurn(SOME, "count 7", 5, "back 1", 8, "count 7", 0, "undo", NOT, "take 63 63", 8, "undo", 0, "back 1", 8, "back 0", 6,
        "back 1", 8, "count 6", 3, "count 8", 5);
  }

  // ---- section 3

  private static void asked() {
    sentence("above: NONE (v is s, is not in it)");
    inTurn("put 0 1", "above 0 0", NONE, "above 0 1", 0, "above 0 2", NONE, "above 1 0", NONE);
    sentence("way: the k-th POINT (0 on; s is the first); NONE: it has fewer, there is no way");
    String path = told("net 10;path 0 1 2;path 2 3 4;path 4 5 6;path 6 7 8;arc 8 9");
    for (int k = 0; k <= 9; k++) taken(path, "way 0 9 " + k, k);
    taken(path, "way 0 9 10", NONE);
    taken(path, "way 0 9 " + MAX, NONE);
    taken(path, "way 8 9 1", 9);
    taken(path, "way 8 9 2", NONE);
    taken(path, "way 9 0 0", NONE);
    taken(path, "way 9 9 0", 9);
    taken(path, "way 9 9 1", NONE);
    sentence("way: UNKNOWN; OUTSIDE: k below 0, the first that fits");
    refused(path, "way 0 9 -1", OUTSIDE);
    refused(path, "way 0 9 " + MIN, OUTSIDE);
    refused(path, "way 9 0 -1", OUTSIDE);
    refused(path, "way 10 0 -1", UNKNOWN);
    refused(path, "way 0 -1 -1", UNKNOWN);
    sentence("around: what 0, 1, 2; UNKNOWN; OUTSIDE, the first that fits");
    taken(SOME, "around 0 0", 39);
    taken(SOME, "around 3 1", 8);
    taken(SOME, "around 5 2", 39);
    for (int no : new int[] {MIN, -1, 3, MAX}) {
      refused(SOME, "around 0 " + no, OUTSIDE);
      refused(SOME, "around 6 " + no, UNKNOWN);
      refused(SOME, "around -1 " + no, UNKNOWN);
    }
    sentence("A RING: one alone, too, if there is no other such");
    inTurn("", "around 0 2", 1, "around 3 2", 8, "count 4", 4, "put 0 1", 1, "around 0 2", 1, "count 4", 4, "put 1 0", 1,
        "around 0 2", 3, "around 1 2", 3, "count 4", 3);
    sentence("reaches: itself, too");
    inTurn("", "reaches 0 0", 1, "reaches 3 3", 1, "reaches 0 3", 0);
  }

  private static void needs() {
    sentence("needless: UNKNOWN: it is not there, too");
    refused(SOME, "needless 1 0", UNKNOWN);
    refused("", "needless 0 1", UNKNOWN);
    taken(SOME, "needless 0 1", 0);
    taken("put 0 1 | put 1 2 | put 0 2", "needless 0 2", 1);
    taken("put 0 1 | put 1 0", "needless 0 1", 0);
    sentence("reduced: NOT: some RING has several POINTS");
    taken("", "reduced", 0);
    taken("put 0 1", "reduced", 1);
    taken("put 0 1 | put 1 2 | put 0 2", "reduced", 2);
    refused("put 0 1 | put 1 0", "reduced", NOT);
    refused("put 2 3 | put 3 2", "reduced", NOT);
    refused(SOME, "reduced", NOT);
    taken("put 0 1 | put 1 0 | undo", "reduced", 1);
    // Of all arcs that rise among nine points, 36, only those to the next point are needed.
    StringBuilder rising = new StringBuilder(told("net 9"));
    for (int u = 0; u < 9; u++) {
      for (int v = u + 1; v < 9; v++) rising.append(" | put ").append(u).append(' ').append(v);
    }
    inTurn(rising.toString(), "count 1", 36, "count 5", 28, "reduced", 8);
  }

  private static void folds() {
    sentence("fold: OUTSIDE: rule 0 .. 3, x (0 .. 999)");
    String one = told("net 2;arc 1 0");
    inTurn(one, "fold 0 0", 1, "fold 1 0", 1, "fold 2 0", 10, "fold 3 0", 1);
    inTurn(one, "fold 0 999", 1000, "fold 1 999", 1000, "fold 2 999", 999);
    for (int no : new int[] {MIN, -1, 4, MAX}) refused(SOME, "fold " + no + " 0", OUTSIDE);
    for (int rule = 0; rule <= 3; rule++) {
      for (int no : new int[] {MIN, -1, 1000, 1001, MAX}) refused(SOME, "fold " + rule + " " + no, OUTSIDE);
    }
    sentence("2 the greater of x, and 10 times u, and v");
    inTurn(one, "fold 2 9", 10, "fold 2 10", 10, "fold 2 11", 11);
    taken(told("net 10;arc 9 8"), "fold 2 97", 98);
    sentence("3 twice x, and 1, by 1000 left over; else twice x, by 1000 left over");
    // 0 does not reach 1: twice; 1 reaches 0: twice, and 1.
    inTurn(one, "fold 3 249", 997, "fold 3 250", 1, "fold 3 499", 997, "fold 3 500", 1, "fold 3 999", 997);
    inTurn(told("net 2;arc 0 1"), "fold 3 249", 998, "fold 3 250", 2, "fold 3 499", 998, "fold 3 500", 2);
    inTurn(told("net 2"), "fold 3 249", 996, "fold 3 250", 0, "fold 3 500", 0, "fold 3 0", 0);
    inTurn(told("net 2;arc 0 1;arc 1 0"), "fold 3 999", 999, "fold 3 249", 999, "fold 3 250", 3);
    sentence("over all pairs: all of ten points");
    inTurn(told("net 10;path 0 1 2;path 2 3 4;path 4 5 6;path 6 7 8;path 8 9 0"), "fold 0 999", 1089, "fold 1 999", 999 + 810,
        "fold 2 0", 98);
  }

  private static void gains() {
    sentence("gain: pairs (what 0), WORK (1); UNKNOWN; OUTSIDE; NOT: it is there, the first that fits");
    // The ring 0 1 2 5 gets 3 and 4, and 4 gets 3.
    taken(SOME, "gain 2 3 0", 9);
    for (int no : new int[] {MIN, -1, 2, MAX}) {
      refused(SOME, "gain 2 3 " + no, OUTSIDE);
      refused(SOME, "gain 0 1 " + no, OUTSIDE);
      refused(SOME, "gain 0 0 " + no, UNKNOWN);
      refused(SOME, "gain 0 6 " + no, UNKNOWN);
    }
    refused(SOME, "gain 0 1 0", NOT);
    refused(SOME, "gain 0 1 1", NOT);
    sentence("FORETOLD (nothing changes)");
    List<Integer> before = Reading.of(Calls.read(SOME));
    for (String call : new String[] {"gain 2 3 0", "gain 2 3 1", "best", "loss 0 1", "worst", "sever 0 4", "needless 0 1"}) {
      tests++;
      if (!Reading.of(Calls.read(SOME + " | " + call)).equals(before)) report(call + " changed something");
    }
    sentence("gain at 40 ARCS is told as ever");
    inTurn(sevenWith(40), "gain 6 4 0", 0, "gain 6 4 1", 7, "gain 6 3 0", NOT);
    sentence("BEST: of several the first; none (all are there)");
    taken("", "best", 1);
    taken("put 0 1", "best", 12);
    taken(then(told("net 2"), "put 0 1"), "best", 10);
    taken(then(told("net 2"), "put 0 1 | put 1 0"), "best", NONE);
    taken(then(told("net 6"), arcs(6, 29)), "best", 54);
    taken(then(told("net 6"), arcs(6, 30)), "best", NONE);
    taken(sevenWith(39), "best", 63);
    taken(sevenWith(40), "best", 64);
    // No arc brings anything: the first that is not there.
    taken(told("ring 0 1 2;ring 2 3 0"), "best", 3);
    taken(told("net 10"), "best", 1);
    sentence("BEST, WORST, GAIN, LOSS of ten POINTS: the last ARC in ORDER is told too");
    inTurn(told("net 10;arc 9 8"), "worst", 98, "loss 9 8", 1, "gain 8 9 0", 1, "gain 8 9 1", 3, "best", 9);
    inTurn(then(told("net 10"), "put 8 7 | put 9 8"), "worst", 87, "loss 8 7", 2, "loss 9 8", 2, "gain 7 9 0", 3,
        "gain 7 9 1", 3 + 2 + 1);
  }

  private static void losses() {
    sentence("loss: UNKNOWN: it is not there, too");
    refused(SOME, "loss 1 0", UNKNOWN);
    refused("", "loss 0 1", UNKNOWN);
    taken("put 0 1", "loss 0 1", 1);
    taken("put 0 1 | put 1 2 | put 0 2", "loss 0 2", 0);
    // Without 1 2 the tree of 0 keeps 1 and, by 0 3, 3; those of 0 and 1 lose 2 alone.
    taken("put 0 1 | put 1 2 | put 0 3", "loss 1 2", 2);
    sentence("WORST: of several the first; none");
    taken("", "worst", NONE);
    taken("put 0 1 | undo", "worst", NONE);
    taken("put 3 2", "worst", 32);
    taken("put 3 2 | put 2 3 | put 0 1", "worst", 1);
    taken("put 3 2 | put 2 0", "worst", 20);
    // No loss costs anything: the first that is there.
    taken(sevenWith(40), "worst", 1);
    taken(then(told("net 3"), arcs(3, 6)), "worst", 1);
    sentence("SEVER of u, v (unlike): the fewest ARCS that would leave v not to be come to from u");
    inTurn("", "sever 0 1", 0, "put 0 1", 1, "sever 0 1", 1, "sever 1 0", 0);
    inTurn(sevenWith(40), "sever 0 6", 6, "sever 6 0", 4, "sever 0 1", 6);
    // From 0 to 9 at once, and by each of the other eight.
    StringBuilder wide = new StringBuilder(told("net 10") + " | put 0 9");
    for (int p = 1; p <= 8; p++) wide.append(" | put 0 ").append(p).append(" | put ").append(p).append(" 9");
    inTurn(wide.toString(), "sever 0 9", 9, "sever 9 0", 0, "sever 0 1", 1, "take 1 512", 1, "sever 0 9", 8);
  }

  // ---- section 4

  private static String things(int chain, int howMany) {
    return "chain " + chain + (howMany == 0 ? "" : " | " + repeated("add " + chain + " 0 1 5", howMany));
  }

  private static void noSuchChain() {
    sentence("CHAINS 0 .. 2; UNKNOWN (no such CHAIN)");
    for (int c = 0; c <= 2; c++) {
      inTurn("", "chain " + c, 0, "add " + c + " 0 1 9", 1, "sum " + c + " 0", 500009, "strike " + c + " 0", 0,
          "append " + c + " " + c, 2, "last " + c + " 0", 50009, "drop " + c, 1);
    }
    for (int no : new int[] {MIN, -1, 3, 4, MAX}) {
      for (String call : new String[] {"chain " + no, "add " + no + " 0 1 1", "add " + no + " 1 1 1", "last " + no + " 0",
          "sum " + no + " 0", "strike " + no + " 0", "append " + no + " 0", "append 0 " + no, "append " + no + " 2",
          "append 2 " + no, "append " + no + " " + no, "drop " + no}) {
        refused(SOME, call, UNKNOWN);
      }
      sentence("UNKNOWN (the CHAIN) ahead of OUTSIDE");
      refused(SOME, "add " + no + " 2 2 99999", UNKNOWN);
      refused(SOME, "last " + no + " 2", UNKNOWN);
      refused(SOME, "sum " + no + " 3", UNKNOWN);
      refused(SOME, "strike " + no + " 2", UNKNOWN);
    }
  }

  private static void missingChains() {
    sentence("CHAINS are missing (at first)");
    for (int c = 0; c <= 2; c++) {
      for (String call : new String[] {"add " + c + " 0 1 1", "add " + c + " 1 0 1", "last " + c + " 0", "last " + c + " 1",
          "sum " + c + " 0", "sum " + c + " 2", "strike " + c + " 0", "strike " + c + " 1", "append " + c + " " + c,
          "drop " + c}) {
        refused("", call, NULL);
        refused("chain " + c + " | add " + c + " 0 1 1 | drop " + c, call, NULL);
      }
    }
    sentence("append: NULL (either)");
    refused(SOME, "append 0 2", NULL);
    refused(SOME, "append 2 0", NULL);
    refused(SOME, "append 2 2", NULL);
    sentence("NULL is ahead of ROOM");
    refused(things(0, 8), "append 0 1", NULL);
    refused(things(0, 8), "append 1 0", NULL);
    sentence("A CHAIN is a new one, with nothing");
    inTurn(things(1, 8), "chain 1", 0, "count 6", 0, "sum 1 2", 500000, "last 1 0", EMPTY, "add 1 0 1 3", 1, "last 1 0", 50003,
        "last 1 0", EMPTY);
    sentence("drop: A CHAIN is missing from now on: how many it had");
    inTurn(things(1, 8), "drop 1", 8, "drop 1", NULL, "count 6", 0, "chain 1", 0, "drop 1", 0, "drop 1", NULL);
  }

  private static void addsToChains() {
    sentence("rows of 0 to 8 things; ROOM (there would be more than 8)");
    taken(things(0, 7), "add 0 0 1 1", 8);
    taken(things(0, 7), "add 0 1 0 1", 8);
    refused(things(0, 8), "add 0 0 1 1", ROOM);
    refused(things(0, 8), "add 0 0 0 1", ROOM);
    refused(things(0, 8), "add 0 1 1 1", ROOM);
    inTurn(things(0, 8), "add 0 0 1 1", ROOM, "last 0 0", 50005, "add 0 0 1 1", 8, "last 0 0", 50001, "count 6", 7);
    sentence("numbers (-9999 .. 9999); a number v is answered as v and 50000");
    inTurn("chain 0", "add 0 0 1 -9999", 1, "last 0 0", 40001, "add 0 0 1 9999", 1, "last 0 0", 59999, "add 0 0 1 0", 1,
        "last 0 0", 50000);
    for (int no : new int[] {MIN, -10000, 10000, MAX}) {
      refused(SOME, "add 0 0 1 " + no, OUTSIDE);
      refused(SOME, "add 2 0 0 " + no, OUTSIDE);
      refused(things(0, 8), "add 0 0 0 " + no, OUTSIDE);
    }
    sentence("add: OUTSIDE (what, end)");
    for (int no : new int[] {MIN, -1, 2, MAX}) {
      refused(SOME, "add 0 " + no + " 1 1", OUTSIDE);
      refused(SOME, "add 0 " + no + " 1 11", OUTSIDE);
      refused(SOME, "add 0 0 " + no + " 1", OUTSIDE);
      refused(SOME, "add 0 1 " + no + " 1", OUTSIDE);
      refused(SOME, "add 2 0 " + no + " 1", OUTSIDE);
      refused(things(0, 8), "add 0 0 " + no + " 1", OUTSIDE);
      refused(things(0, 8), "add 0 " + no + " 0 1", OUTSIDE);
    }
    sentence("add: UNKNOWN (the ARC) is ahead of OUTSIDE, NULL and ROOM");
    refused(SOME, "add 0 1 2 11", UNKNOWN);
    refused(SOME, "add 2 1 1 11", UNKNOWN);
    refused(things(0, 8), "add 0 1 1 11", UNKNOWN);
    sentence("comes behind (end 1) or ahead of all (0)");
    inTurn("chain 0", "add 0 0 0 1", 1, "add 0 0 0 2", 2, "add 0 0 1 3", 3, "last 0 0", 50003, "last 0 0", 50001, "last 0 0",
        50002, "last 0 0", EMPTY);
    inTurn("chain 0", "add 0 1 1 12", 1, "add 0 0 0 1", 2, "add 0 1 0 21", 3, "last 0 1", 12, "last 0 0", 50001, "last 0 1", 21);
    inTurn(things(0, 7), "add 0 1 0 12", 8, "last 0 0", 50005, "append 0 0", ROOM, "sum 0 1", 500012, "sum 0 0", 500030);
  }

  private static void arcsOfChains() {
    sentence("the ARC told as v (there or not, but of unlike POINTS); UNKNOWN (the ARC)");
    for (int n : new int[] {2, 4, 10}) {
      String state = told("net " + n) + " | chain 0";
      for (int v = -1; v <= 110; v++) {
        boolean known = v >= 0 && v / 10 < n && v % 10 < n && v / 10 != v % 10;
        taken(state, "add 0 1 1 " + v, known ? 1 : UNKNOWN);
        if (known) inTurn(state, "add 0 1 1 " + v, 1, "last 0 1", v);
      }
      for (int no : new int[] {MIN, -11, -10, -1, 0, 11, 10 * n, 10 * n + 1, 100, 101, 1001, MAX}) {
        refused(state + " | put 0 1 | add 0 1 1 1", "add 0 1 1 " + no, UNKNOWN);
      }
      if (n < 10) refused(state, "add 0 1 1 " + n, UNKNOWN);
    }
  }

  private static void lastOfChains() {
    sentence("last: taken as a number (what 0), as an ARC (1); OUTSIDE");
    for (int no : new int[] {MIN, -1, 2, MAX}) {
      refused(SOME, "last 0 " + no, OUTSIDE);
      refused(SOME, "last 2 " + no, OUTSIDE);
      refused("chain 0", "last 0 " + no, OUTSIDE);
    }
    sentence("EMPTY -12 (it has nothing), ahead of CAST");
    refused("chain 0", "last 0 0", EMPTY);
    refused("chain 0", "last 0 1", EMPTY);
    refused("chain 0 | add 0 1 1 1 | last 0 1", "last 0 0", EMPTY);
    refused("chain 0 | add 0 0 1 1 | last 0 0", "last 0 1", EMPTY);
    refused("put 0 1 | chain 0 | add 0 1 1 1 | strike 0 1", "last 0 0", EMPTY);
    sentence("CAST -13 (the other sort is there)");
    refused(SOME, "last 0 0", CAST);
    refused(SOME, "last 1 0", CAST);
    refused("chain 0 | add 0 1 1 1 | add 0 0 1 1", "last 0 1", CAST);
    taken(SOME, "last 0 1", 12);
    taken("chain 0 | add 0 1 1 1 | add 0 0 1 1", "last 0 0", 50001);
    taken("chain 0 | add 0 1 1 1", "last 0 1", 1);
  }

  private static void sumsAndStrikes() {
    sentence("sum: numbers (what 0), ARCS (1), both (2), and 500000 more; OUTSIDE");
    inTurn(told("net 10") + " | chain 0 | chain 1 | " + repeated("add 0 0 1 9999", 8) + " | " + repeated("add 1 1 1 98", 8),
        "sum 0 0", 579992, "sum 0 1", 500000, "sum 0 2", 579992, "sum 1 0", 500000, "sum 1 1", 500784, "sum 1 2", 500784);
    inTurn("chain 0 | " + repeated("add 0 0 0 -9999", 8), "sum 0 0", 420008, "sum 0 2", 420008, "sum 0 1", 500000);
    inTurn("chain 0", "sum 0 0", 500000, "sum 0 1", 500000, "sum 0 2", 500000);
    for (int no : new int[] {MIN, -1, 3, MAX}) {
      refused(SOME, "sum 0 " + no, OUTSIDE);
      refused(SOME, "sum 2 " + no, OUTSIDE);
    }
    sentence("strike: that are there (what 1), that are not (0), go: how many these were; OUTSIDE");
    inTurn("put 0 1 | chain 0 | " + repeated("add 0 1 1 1", 8), "strike 0 0", 0, "count 6", 8, "strike 0 1", 8, "count 6", 0,
        "strike 0 1", 0, "last 0 1", EMPTY);
    inTurn("chain 0 | " + repeated("add 0 1 1 1", 8), "strike 0 1", 0, "strike 0 0", 8, "strike 0 0", 0, "last 0 1", EMPTY);
    inTurn("put 0 1 | chain 0 | " + repeated("add 0 0 1 1", 8), "strike 0 0", 0, "strike 0 1", 0, "count 6", 8);
    inTurn("put 0 1 | chain 0 | add 0 1 1 1 | add 0 0 1 1 | add 0 1 1 10 | add 0 0 1 10 | add 0 1 1 1", "strike 0 1", 2,
        "last 0 0", 50010, "last 0 1", 10, "last 0 0", 50001, "last 0 0", EMPTY);
    inTurn("chain 0", "strike 0 0", 0, "strike 0 1", 0);
    for (int no : new int[] {MIN, -1, 2, MAX}) {
      refused(SOME, "strike 0 " + no, OUTSIDE);
      refused(SOME, "strike 2 " + no, OUTSIDE);
    }
  }

  private static void appends() {
    sentence("append: it stays as it is: how many that has; ROOM (there would be more than 8)");
    String five = things(0, 5);
    taken(then(five, things(1, 3)), "append 0 1", 8);
    refused(then(five, things(1, 4)), "append 0 1", ROOM);
    refused(then(things(0, 8), things(1, 1)), "append 0 1", ROOM);
    refused(then(things(0, 8), things(1, 1)), "append 1 0", ROOM);
    taken(then(things(0, 8), things(1, 0)), "append 0 1", 8);
    taken(then(things(0, 8), things(1, 0)), "append 1 0", 8);
    taken(then(things(0, 0), things(1, 0)), "append 0 1", 0);
    sentence("append: (or itself)");
    taken(things(0, 0), "append 0 0", 0);
    taken(things(0, 4), "append 0 0", 8);
    refused(five, "append 0 0", ROOM);
    refused(things(0, 8), "append 0 0", ROOM);
    sentence("append: in its order");
    inTurn("chain 0 | add 0 0 1 1 | add 0 1 1 2 | chain 1 | add 1 0 1 3", "append 0 1", 3, "append 0 0", 4, "last 1 1", 2,
        "last 1 0", 50001, "last 1 0", 50003, "last 0 1", 2, "last 0 0", 50001, "last 0 1", 2, "last 0 0", 50001,
        "last 0 0", EMPTY);
    inTurn(then(five, things(1, 3)), "append 0 1", 8, "count 6", 13, "drop 0", 5, "drop 1", 8);
  }

  private static void counts() {
    sentence("count: 0 .. 8; OUTSIDE");
    // 0, 1, 2, 5 reach one another, 3 and 4 what is behind them; work: 24 by put(5, 0), 26 by take(4, 8).
    int[] due = {6, 7, 21, 50, 3, 0, 3, 5, 5};
    for (int what = 0; what < due.length; what++) taken(SOME, "count " + what, due[what]);
    for (int no : new int[] {MIN, -1, 9, 10, MAX}) refused(SOME, "count " + no, OUTSIDE);
    inTurn(things(0, 8) + " | " + things(1, 8) + " | " + things(2, 8), "count 6", 24);
  }

  private static void manyCalls() {
    sentence("An object is used for at most 512 calls after it has been made");
    ReachTrees x = new ReachTrees();
    for (int i = 0; i < Calls.MOST / 2; i++) {
      due(i + " times put, take", "put", i % 2 == 0 ? x.put(0, 1) : x.take(1, 2), 1);
      due(i + " times put, take", "count 3", x.count(3), i / 2 + 1);
    }
    sentence("later calls end, whatever they answer");
    for (int i = 0; i < 20000; i++) {
      x.put(i % 4, i / 4 % 4);
      x.write(97);
      x.net();
      x.undo();
    }
  }

  public static void main(String[] args) {
    pointsOfANet();
    noSuchPoint();
    twoTheSame();
    fortyArcs();
    textArcsWhenFull();
    lettersOfTheText();
    clausesOfTheText();
    wordsAndSigns();
    numbersOfTheText();
    theFirstFault();
    whatTextsDo();
    work();
    takes();
    clears();
    undoes();
    keeps();
    asked();
    needs();
    folds();
    gains();
    losses();
    noSuchChain();
    missingChains();
    addsToChains();
    arcsOfChains();
    lastOfChains();
    sumsAndStrikes();
    appends();
    counts();
    manyCalls();
    System.out.println(wrong == 0 ? "all " + tests + " answers are as due" : wrong + " answers are not as due");
    if (wrong != 0) {
      System.exit(1);
    }
  }
}
