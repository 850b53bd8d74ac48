import java.util.ArrayList;
import java.util.List;

/** Every OUTSIDE of the promises: both ends of each bound, and the numbers just beyond them. */
public final class EdgesBoundsTest {
  private static final int OUTSIDE = -1000001;
  private static final int[] FAR = {Integer.MIN_VALUE, Integer.MAX_VALUE};

  public static void main(String[] args) {
    // A call's name, and the two ends of each of its numbers, as the document tells them.
    call("sine", 0, 65535);
    call("turned", -32000, 32000, -32000, 32000, 0, 65535, 0, 3);
    call("back", -32000, 32000, -32000, 32000, 0, 65535, 0, 1);
    call("times", -32000, 32000, -32000, 32000, 0, 3);
    // BUS, MOST, LOAD, TRIP, CORNER, WANTED
    call("rule", 0, 0, 100, 30000);
    call("rule", 1, 1, 0, 20000);
    call("rule", 2, 2, -2000, 2000);
    call("rule", 3, 3, 100, 32000);
    call("rule", 4, 4, 0, 60000);
    call("rule", 5, 5, -60000, 60000);
    call("gain", 0, 2, 0, 1, 0, 4000);
    call("order", 0, 3);
    call("beat", 0, 400);
    call("told", 0, 17);
    call("loop", 0, 4000, 0, 4000, 0, 32000, -100000000, 100000000, -100000, 100000, 0, 1);
    noSuchRule();
    noSuchRow();
    Runs.end();
  }

  private static void call(String name, int... ends) {
    for (int choice = 0; choice < 1 << ends.length / 2; choice++) {
      List<Integer> a = atTheEnds(choice, ends);
      atItsEnds(name, a);
      // A rule's number is no bound of its own: the others have rows of their own here.
      for (int i = name.equals("rule") ? 1 : 0; i < a.size(); i++) beyond(name, a, i, ends);
    }
  }

  private static List<Integer> atTheEnds(int choice, int... ends) {
    List<Integer> a = new ArrayList<>();
    for (int i = 0; i < ends.length / 2; i++) a.add(ends[2 * i + (choice >> i & 1)]);
    return a;
  }

  /** What is due there is asked of the second writing of the document. */
  private static void atItsEnds(String name, List<Integer> a) {
    for (int state = 0; state < 5; state++) {
      TurnedFields x = Ways.to(state);
      Model model = Model.led(Ways.TO[state]);
      long due = model.answer(name, a);
      String where = name + a + " in STATE " + state;
      Runs.due(where + " is not refused as OUTSIDE", due == OUTSIDE ? 1 : 0, 0);
      Runs.due(where, Runs.answer(x, name, a), due);
      Runs.due(where + ", then digest", x.digest(), model.answer("digest", List.of()));
    }
  }

  private static void beyond(String name, List<Integer> ends, int i, int... bounds) {
    List<Integer> wrong = new ArrayList<>(List.of(bounds[2 * i] - 1, bounds[2 * i + 1] + 1));
    for (int far : FAR) wrong.add(far);
    for (int state = 0; state < 5; state++) {
      TurnedFields x = Ways.to(state);
      int digest = x.digest();
      for (int v : wrong) {
        List<Integer> a = new ArrayList<>(ends);
        a.set(i, v);
        Runs.due(name + a + " in STATE " + state, Runs.answer(x, name, a), OUTSIDE);
      }
      Runs.due("digest behind " + name + " beyond its bounds", x.digest(), digest);
    }
  }

  private static void noSuchRule() {
    Runs.play("rule: no such number", """
        rule -1 100 = OUTSIDE
        rule 6 100 = OUTSIDE
        rule LEAST 100 = OUTSIDE
        rule GREATEST 100 = OUTSIDE
        rule 0 100 = 10000
        rule 5 100 = 0
        """);
  }

  private static void noSuchRow() {
    Runs.play("ring: OUTSIDE is what alone, never i", """
        order 0 = 0
        ring 0 0 = 0
        ring 0 2 = 0
        ring 0 -1 = OUTSIDE
        ring 0 3 = OUTSIDE
        ring LEAST -1 = OUTSIDE
        ring GREATEST 3 = OUTSIDE
        ring 0 LEAST = OUTSIDE
        ring 0 GREATEST = OUTSIDE
        ring -1 0 = NONE
        ring LEAST 0 = NONE
        ring GREATEST 2 = NONE
        """);
  }
}
