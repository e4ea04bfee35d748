import java.util.ArrayList;
import java.util.List;

/**
 * All that later calls could answer behind a run of calls. Some questions change what they ask about, so each
 * sort of question is put to an object of its own, made by the same run.
 */
final class Reading {
  private static final int UNDOES = 9;
  private static final String[] MORE_TEXT = {" 1", ";net 3", "0 1", "arc 0 1"};

  private final List<int[]> run;
  private final List<Integer> answers = new ArrayList<>();
  private ReachTrees x;
  private int calls;

  private Reading(List<int[]> run) {
    this.run = run;
  }

  static List<Integer> of(List<int[]> run) {
    Reading reading = new Reading(run);
    for (int undoes = 0; undoes <= UNDOES; undoes++) reading.undone(undoes);
    for (int k = 0; k < 2; k++) reading.broughtBack(k);
    reading.chains();
    reading.text("");
    for (String more : MORE_TEXT) reading.text(more);
    return reading.answers;
  }

  private void makeAnew() {
    x = Calls.made(run);
    calls = run.size();
  }

  private int ask(int answer) {
    calls++;
    if (calls > Calls.MOST) throw new IllegalStateException("a reading of more calls than an object has");
    answers.add(answer);
    return answer;
  }

  private void look() {
    for (int what = 0; what <= 8; what++) ask(x.count(what));
    int n = x.count(0);
    for (int u = 0; u < n; u++) {
      ask(x.around(u, 0));
      for (int v = 0; v < n; v++) {
        if (u != v) {
          ask(x.arc(u, v));
          ask(x.above(u, v));
        }
      }
    }
  }

  private void undone(int times) {
    makeAnew();
    for (int i = 0; i < times; i++) ask(x.undo());
    look();
  }

  private void broughtBack(int k) {
    makeAnew();
    ask(x.back(k));
    look();
    ask(x.undo());
  }

  private void chains() {
    makeAnew();
    for (int c = 0; c < 3; c++) {
      boolean more = true;
      for (int i = 0; i <= 8 && more; i++) {
        boolean number = ask(x.last(c, 0)) >= 0;
        more = number || ask(x.last(c, 1)) >= 0;
      }
    }
  }

  private void text(String more) {
    makeAnew();
    for (char letter : more.toCharArray()) ask(x.write(letter));
    ask(x.fault());
    ask(x.net());
    look();
    ask(x.erase());
  }
}
