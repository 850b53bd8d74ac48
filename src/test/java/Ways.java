import java.util.ArrayList;
import java.util.List;

/** Tables that lead a new object into each STATE, and questions about all that an object holds. */
final class Ways {
  static final String ALIGN = "order 0 = 0\n";
  static final String RUN = ALIGN + "beat 64 = 2\n";
  static final String BRAKE = RUN + "rule 5 3000 = 0\nbeat 20 = 2\norder 1 = 2\n";
  static final String STOPPED = "rule 0 25001 = 10000\nbeat 1 = 4\nrule 0 10000 = 25001\n";
  /** By STATE; none of these has a FAULT that is there now. */
  static final String[] TO = {"", ALIGN, RUN, BRAKE, STOPPED};

  private Ways() {}

  static TurnedFields to(int state) {
    return Runs.play("the way to STATE " + state, TO[state]);
  }

  /** All that is told and all of THE RING: 81 calls that change nothing. */
  static List<Integer> toldAndRing(TurnedFields x) {
    List<Integer> all = new ArrayList<>();
    for (int what = 0; what <= 17; what++) all.add(x.told(what));
    for (int i = 0; i <= 20; i++) {
      for (int what = 0; what <= 2; what++) all.add(x.ring(i, what));
    }
    return all;
  }

  /** Rules, gains and the line, which can only be asked for by setting them anew. */
  static List<Integer> numbersThatWere(TurnedFields x) {
    List<Integer> all = new ArrayList<>();
    for (int what = 0; what <= 5; what++) all.add(x.rule(what, 1000));
    for (int k = 0; k <= 2; k++) {
      for (int what = 0; what <= 1; what++) all.add(x.gain(k, what, 100));
    }
    all.add(x.lose(false));
    return all;
  }

  static void same(String name, List<Integer> got, List<Integer> want) {
    Runs.due(name + " (answers)", got.size(), want.size());
    for (int i = 0; i < Math.min(got.size(), want.size()); i++) {
      Runs.due(name + ", answer " + i, got.get(i), want.get(i));
    }
  }
}
