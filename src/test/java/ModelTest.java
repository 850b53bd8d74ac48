import java.util.ArrayList;
import java.util.List;

/** All promises: drawn calls on the class and on the model, answer by answer, 512 of each object. */
public final class ModelTest {
  private static final int OBJECTS = 300, DRAWN = 256;
  private static final String[] NAMES = {
    "beat", "beat", "beat", "beat", "order", "order", "rule", "rule", "gain", "told", "ring", "digest",
    "sine", "turned", "back", "times", "loop", "lose"};
  private static final int[][] RULES = {
    {100, 30000}, {0, 20000}, {-2000, 2000}, {100, 32000}, {0, 60000}, {-60000, 60000}};
  private static final int[] USUAL_BEATS = {1, 1, 2, 7, 63, 64, 65, 120};

  // A row of numbers of its own, so that a run can be told again by its number.
  private long seed = 20261116;

  public static void main(String[] args) {
    new ModelTest().all();
    Runs.end();
  }

  private void all() {
    int[] states = new int[5];
    int[] faults = new int[5];
    for (int object = 0; object < OBJECTS; object++) {
      TurnedFields x = new TurnedFields();
      Model model = new Model();
      for (int call = 0; call < DRAWN; call++) {
        one(object + ":" + call, x, model);
        states[(int) model.answer("told", List.of(0))]++;
        faults[(int) model.answer("told", List.of(1))]++;
      }
    }
    for (int i = 0; i < 5; i++) {
      Runs.due("state " + i + " was met", states[i] > 100 ? 1 : 0, 1);
      Runs.due("fault " + i + " was met", faults[i] > 100 ? 1 : 0, 1);
    }
  }

  private void one(String where, TurnedFields x, Model model) {
    String name = NAMES[draw(0, NAMES.length - 1)];
    List<Integer> a = arguments(name);
    Runs.due(where + " " + name + a, Runs.answer(x, name, a), model.answer(name, a));
    Runs.due(where + " digest behind " + name + a, x.digest(), model.answer("digest", List.of()));
  }

  private List<Integer> arguments(String name) {
    switch (name) {
      case "sine": return near(0, 65535);
      case "turned": return near(-32000, 32000, -32000, 32000, 0, 65535, 0, 3);
      case "back": return near(-32000, 32000, -32000, 32000, 0, 65535, 0, 1);
      case "times": return near(-32000, 32000, -32000, 32000, 0, 3);
      case "rule": return rule();
      case "gain": return draw(0, 1) == 0 ? near(0, 2, 0, 1, 0, 4000) : near(0, 2, 0, 1, 0, 300);
      case "lose": return List.of(draw(0, 4) == 0 ? 1 : 0);
      // Mostly onwards: to ALIGN and out of STOPPED.
      case "order": return draw(0, 2) == 0 ? near(0, 3) : List.of(2 * draw(0, 1));
      case "beat": return draw(0, 3) == 0 ? near(0, 400) : List.of(USUAL_BEATS[draw(0, 7)]);
      case "told": return near(0, 17);
      case "ring": return near(0, 20, 0, 2);
      case "loop": return draw(0, 1) == 0
          ? near(0, 4000, 0, 4000, 0, 32000, -100000000, 100000000, -100000, 100000, 0, 1)
          : near(0, 400, 0, 400, 0, 500, -200000, 200000, -500, 500, 0, 1);
      default: return List.of();
    }
  }

  private List<Integer> rule() {
    int what = one(0, 5);
    if (what < 0 || what > 5) return List.of(what, draw(-100, 100));
    // A BUS that stops the motor is drawn seldom, so that it runs at all.
    if (what == 0 && draw(0, 4) != 0) return List.of(0, draw(5000, 25000));
    return List.of(what, one(RULES[what][0], RULES[what][1]));
  }

  private List<Integer> near(int... bounds) {
    List<Integer> a = new ArrayList<>();
    for (int i = 0; i < bounds.length; i += 2) a.add(one(bounds[i], bounds[i + 1]));
    return a;
  }

  /** A number within bounds, often an edge, and seldom one beyond it. */
  private int one(int low, int high) {
    switch (draw(0, 39)) {
      case 0: return low - 1;
      case 1: return high + 1;
      case 2: return draw(0, 1) == 0 ? Integer.MIN_VALUE : Integer.MAX_VALUE;
      case 3: case 4: case 5: return low;
      case 6: case 7: case 8: return high;
      default: return draw(low, high);
    }
  }

  private int draw(int low, int high) {
    seed = seed * 6364136223846793005L + 1442695040888963407L;
    return low + (int) ((seed >>> 33) % (high - low + 1));
  }
}
