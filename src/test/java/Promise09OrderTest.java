/** Promise 9: orders from one STATE to another. */
public final class Promise09OrderTest {
  private static final String ALIGN = "order 0 = 0\n";
  private static final String RUN = ALIGN + "beat 64 = 2\n";
  private static final String BRAKE = RUN + "rule 5 3000 = 0\nbeat 20 = 2\norder 1 = 2\n";
  private static final String STOPPED = "rule 0 25001 = 10000\nbeat 1 = 4\nrule 0 10000 = 25001\n";
  private static final String[] WAYS = {"", ALIGN, RUN, BRAKE, STOPPED};
  // By STATE, then by order: the STATE behind it, or -1 where it is not taken.
  private static final int[][] BEHIND = {
    {1, -1, -1, -1}, {-1, -1, -1, 0}, {-1, 3, -1, 0}, {-1, -1, -1, 0}, {-1, -1, 0, -1}};

  public static void main(String[] args) {
    for (int state = 0; state < 5; state++) {
      for (int what = 0; what < 4; what++) one(state, what);
      outside(state, -1);
      outside(state, 4);
      outside(state, Integer.MIN_VALUE);
      outside(state, Integer.MAX_VALUE);
    }
    faultsThatKeepIt();
    Runs.play("order 3 leaves all but the STATE as it is", """
        order 0 = 0
        beat 64 = 2
        rule 5 3000 = 0
        beat 20 = 2
        all = 2 0 -222 3005 3290 7022 3689 4503 3816 -45 619 5711 84 0 -60140 252040 703500 0
        order 3 = 2
        all = 0 0 -222 3005 3290 7022 3689 4503 3816 -45 619 5711 84 0 -60140 252040 703500 0
        order 0 = 0
        all = 1 0 -222 3005 3290 7022 3689 4503 3816 -45 619 5711 84 0 -60140 252040 703500 0
        beat 1 = 1
        all = 1 0 -40 2716 3477 7891 4464 3729 3729 600 0 5801 85 0 -60140 252040 703500 1
        order 3 = 1
        told 17 = 0
        beat 1 = 0
        all = 0 0 -20 2439 3646 8802 0 0 0 0 0 5869 86 0 0 0 0 0
        """);
    Runs.end();
  }

  private static void one(int state, int what) {
    TurnedFields x = Runs.play("way to " + state, WAYS[state]);
    String call = "order(" + what + ") in " + state;
    int digest = x.digest();
    int latest = x.ring(0, 0);
    int behind = BEHIND[state][what];
    Runs.due(call, x.order(what), behind < 0 ? -1000002 : state);
    Runs.due(call + ", then told(0)", x.told(0), behind < 0 ? state : behind);
    if (behind < 0) {
      Runs.due(call + ", then digest", x.digest(), digest);
      Runs.due(call + ", then ring(0, 0)", x.ring(0, 0), latest);
    } else {
      Runs.due(call + ", then told(1)", x.told(1), 0);
      Runs.due(call + ", then told(17)", x.told(17), 0);
      Runs.due(call + ", then ring(0, 0)", x.ring(0, 0), x.told(12));
      Runs.due(call + ", then ring(0, 1)", x.ring(0, 1), behind);
      Runs.due(call + ", then ring(0, 2)", x.ring(0, 2), 0);
    }
  }

  private static void outside(int state, int what) {
    TurnedFields x = Runs.play("way to " + state, WAYS[state]);
    int digest = x.digest();
    Runs.due("order(" + what + ") in " + state, x.order(what), -1000001);
    Runs.due("digest behind it", x.digest(), digest);
  }

  private static void faultsThatKeepIt() {
    Runs.play("CURRENT that is still there", """
        order 0 = 0
        beat 1 = 1
        rule 3 149 = 20000
        beat 1 = 4
        told 1 = 1
        told 2 = 141
        rule 3 140 = 149
        order 2 = NOT
        rule 3 141 = 140
        order 2 = 4
        """);
    Runs.play("VOLTS that are still there, though it stopped for CURRENT", """
        order 0 = 0
        beat 1 = 1
        rule 3 149 = 20000
        beat 1 = 4
        rule 3 20000 = 149
        rule 0 25001 = 10000
        order 2 = NOT
        told 1 = 1
        rule 0 25000 = 25001
        order 2 = 4
        told 1 = 0
        """);
    Runs.play("a lost line does not keep it, and stays lost", """
        order 0 = 0
        beat 64 = 2
        lose 1 = 0
        beat 1 = 4
        order 2 = 4
        lose 1 = 1
        """);
    String hot = """
        order 0 = 0
        beat 64 = 2
        rule 5 60000 = 0
        rule 1 20000 = 4000
        gain 2 0 4000 = 200
        """;
    Runs.play("HEAT of 100001 keeps it", hot + """
        rule 2 -1584 = 0
        beat 200 = 4
        told 1 = 4
        rule 2 0 = -1584
        beat 134 = 4
        told 11 = 100001
        order 2 = NOT
        told 0 = 4
        """);
    Runs.play("HEAT of 100000 does not, and stays behind the order", hot + """
        rule 2 -1515 = 0
        beat 200 = 4
        rule 2 0 = -1515
        beat 118 = 4
        order 2 = NOT
        beat 1 = 4
        told 11 = 100000
        order 2 = 4
        told 11 = 100000
        told 1 = 0
        """);
  }
}
