/** Promise 9: every NOT of `order` in every STATE, and the FAULTS that keep it STOPPED. */
public final class EdgesOrderTest {
  private static final int NOT = -1000002;
  // By STATE, then by order: the STATE behind it, or NOT.
  private static final int[][] BEHIND = {
    {1, NOT, NOT, NOT}, {NOT, NOT, NOT, 0}, {NOT, 3, NOT, 0}, {NOT, NOT, NOT, 0}, {NOT, NOT, 0, NOT}};
  // STOPPED with a HEAT below its bound, and with one above it.
  private static final String HEATING = """
      order 0 = 0
      beat 64 = 2
      rule 5 60000 = 0
      rule 1 20000 = 4000
      gain 2 0 4000 = 200
      """;
  private static final String WARM = HEATING + "beat 40 = 2\nlose 1 = 0\nbeat 1 = 4\ntold 11 = 96012\nlose 0 = 1\n";
  private static final String HOT = HEATING + "beat 44 = 2\nlose 1 = 0\nbeat 1 = 4\ntold 11 = 102239\nlose 0 = 1\n";

  public static void main(String[] args) {
    for (int state = 0; state < 5; state++) {
      for (int what = 0; what < 4; what++) {
        one(state, what, false);
        // A FAULT that is there now refuses none but order 2 in STOPPED.
        if (state != 4 || what != 2) one(state, what, true);
      }
    }
    for (int there = 0; there < 16; there++) aFaultWouldBeThereNow(there);
    heatStays();
    lostAside();
    toRestAtOnce();
    Runs.end();
  }

  private static void one(int state, int what, boolean withFaults) {
    TurnedFields x = Ways.to(state);
    if (withFaults) {
      x.rule(0, 25001);
      x.rule(3, 100);
      x.lose(true);
    }
    String call = "order(" + what + ") in STATE " + state + (withFaults ? " with FAULTS that would be there now" : "");
    var ahead = Ways.toldAndRing(x);
    int behind = BEHIND[state][what];
    Runs.due(call, x.order(what), behind == NOT ? NOT : state);
    if (behind == NOT) {
      Ways.same(call + " changes nothing", Ways.toldAndRing(x), ahead);
      return;
    }
    Runs.due(call + ", then told(0)", x.told(0), behind);
    Runs.due(call + ", then told(1)", x.told(1), 0);
    Runs.due(call + ", then ring(0, 0)", x.ring(0, 0), x.told(12));
    Runs.due(call + ", then ring(0, 1)", x.ring(0, 1), behind);
    Runs.due(call + ", then ring(0, 2)", x.ring(0, 2), 0);
    Runs.due(call + ", then ring(1, 1)", x.ring(1, 1), ahead.get(19));
  }

  /** Every choice of the four FAULTS at once: bit k stands for FAULT k + 1. */
  private static void aFaultWouldBeThereNow(int there) {
    String name = "of 2: a FAULT would be there now (3 LOST aside): by bits " + Integer.toBinaryString(there);
    TurnedFields x = Runs.play(name, (there & 8) != 0 ? HOT : WARM);
    if ((there & 1) != 0) x.rule(3, 100);
    if ((there & 2) != 0) x.rule(0, 25001);
    if ((there & 4) != 0) x.lose(true);
    var ahead = Ways.toldAndRing(x);
    boolean kept = (there & ~4) != 0;
    Runs.due(name, x.order(2), kept ? NOT : 4);
    Runs.due(name + ", then told(0)", x.told(0), kept ? 4 : 0);
    Runs.due(name + ", then told(1)", x.told(1), kept ? 3 : 0);
    if (kept) Ways.same(name + " changes nothing", Ways.toldAndRing(x), ahead);
    Runs.due(name + ", then lose(false)", x.lose(false), (there & 4) != 0 ? 1 : 0);
  }

  private static void heatStays() {
    Runs.play("2 from STOPPED to REST (HEAT stays): 100001 keeps it STOPPED", HEATING + """
        rule 2 -1584 = 0
        beat 200 = 4
        rule 2 0 = -1584
        beat 134 = 4
        told 11 = 100001
        order 2 = NOT
        told 0 = 4
        told 1 = 4
        """);
    Runs.play("2 from STOPPED to REST (HEAT stays): 100000 does not", HEATING + """
        rule 2 -1515 = 0
        beat 200 = 4
        rule 2 0 = -1515
        beat 118 = 4
        order 2 = NOT
        beat 1 = 4
        told 11 = 100000
        order 2 = 4
        told 11 = 100000
        beat 1 = 0
        told 11 = 99610
        """);
    Runs.play("of 2: CURRENT at TRIP does not keep it STOPPED, by 1 above it does", """
        order 0 = 0
        beat 1 = 1
        rule 3 149 = 20000
        beat 1 = 4
        told 2 = 141
        rule 3 140 = 149
        order 2 = NOT
        rule 3 141 = 140
        order 2 = 4
        """);
    Runs.play("of 2: BUS of 25000 does not keep it STOPPED, 25001 does", """
        rule 0 30000 = 10000
        beat 1 = 4
        order 2 = NOT
        rule 0 25001 = 30000
        order 2 = NOT
        rule 0 25000 = 25001
        order 2 = 4
        """);
  }

  private static void lostAside() {
    Runs.play("3 LOST aside: from STOPPED through ALIGN to RUN, where it is found again", Ways.RUN + """
        lose 1 = 0
        beat 1 = 4
        told 1 = 3
        order 2 = 4
        told 1 = 0
        order 0 = 0
        beat 64 = 2
        beat 1 = 4
        told 1 = 3
        order 2 = 4
        lose 0 = 1
        """);
    Runs.play("3 LOST aside: it does not let order 2 be taken in another STATE", Ways.RUN + """
        lose 1 = 0
        order 2 = NOT
        order 1 = 2
        order 2 = NOT
        order 3 = 3
        order 2 = NOT
        order 0 = 0
        order 2 = NOT
        """);
  }

  private static void toRestAtOnce() {
    Runs.play("3 .. to REST at once: with no BEAT between", Ways.RUN + """
        order 3 = 2
        told 0 = 0
        told 12 = 64
        order 0 = 0
        told 0 = 1
        order 3 = 1
        told 0 = 0
        told 17 = 0
        order 3 = NOT
        """);
  }
}
