/** Promise 9: every NOT of `order` in every STATE, and the FAULTS that keep it STOPPED. */
public final class EdgesOrderTest {
  private static final int NOT = -1000002;
  // By STATE, then by order: the STATE behind it, or NOT.
  private static final int[][] BEHIND = {
    {1, NOT, NOT, NOT}, {NOT, NOT, NOT, 0}, {NOT, 3, NOT, 0}, {NOT, NOT, NOT, 0}, {NOT, NOT, 0, NOT}};
  // STOPPED with a HEAT below its bound, and with one above it.
  private static final String HEATING = """
      order 0 = 0
      beat 64 = 2
      rule 5 60000 = 0
      rule 1 20000 = 4000
      gain 2 0 4000 = 200
      """;
  private static final String WARM = HEATING + "beat 40 = 2\nlose 1 = 0\nbeat 1 = 4\ntold 11 = 96012\nlose 0 = 1\n";
  private static final String HOT = HEATING + "beat 44 = 2\nlose 1 = 0\nbeat 1 = 4\ntold 11 = 102239\nlose 0 = 1\n";

  public static void main(String[] args) {
    for (int state = 0; state < 5; state++) {
      for (int what = 0; what < 4; what++) {
        one(state, what, false);
        // A FAULT that is there now refuses none but order 2 in STOPPED.
        if (state != 4 || what != 2) one(state, what, true);
      }
    }
    for (int there = 0; there < 16; there++) aFaultWouldBeThereNow(there);
    heatStays();
    lostAside();
    toRestAtOnce();
    untilTheNextBeat();
    Runs.end();
  }

  private static void one(int state, int what, boolean withFaults) {
    TurnedFields x = Ways.to(state);
    if (withFaults) {
      x.rule(0, 25001);
      x.rule(3, 100);
      x.lose(true);
    }
    String call = "order(" + what + ") in STATE " + state + (withFaults ? " with FAULTS that would be there now" : "");
    var ahead = Ways.toldAndRing(x);
    int behind = BEHIND[state][what];
    Runs.due(call, x.order(what), behind == NOT ? NOT : state);
    if (behind == NOT) {
      Ways.same(call + " changes nothing", Ways.toldAndRing(x), ahead);
      return;
    }
    Runs.due(call + ", then told(0)", x.told(0), behind);
    Runs.due(call + ", then told(1)", x.told(1), 0);
    // Only a BEAT sets what is told by these numbers.
    for (int told = 2; told <= 16; told++) {
      Runs.due(call + ", then told(" + told + ")", x.told(told), ahead.get(told));
    }
    Runs.due(call + ", then told(17)", x.told(17), 0);
    Runs.due(call + ", then ring(0, 0)", x.ring(0, 0), x.told(12));
    Runs.due(call + ", then ring(0, 1)", x.ring(0, 1), behind);
    Runs.due(call + ", then ring(0, 2)", x.ring(0, 2), 0);
    Runs.due(call + ", then ring(1, 1)", x.ring(1, 1), ahead.get(19));
  }

  /** Every choice of the four FAULTS at once: bit k stands for FAULT k + 1. */
  private static void aFaultWouldBeThereNow(int there) {
    String name = "of 2: a FAULT would be there now (3 LOST aside): by bits " + Integer.toBinaryString(there);
    TurnedFields x = Runs.play(name, (there & 8) != 0 ? HOT : WARM);
    if ((there & 1) != 0) x.rule(3, 100);
    if ((there & 2) != 0) x.rule(0, 25001);
    if ((there & 4) != 0) x.lose(true);
    var ahead = Ways.toldAndRing(x);
    boolean kept = (there & ~4) != 0;
    Runs.due(name, x.order(2), kept ? NOT : 4);
    Runs.due(name + ", then told(0)", x.told(0), kept ? 4 : 0);
    Runs.due(name + ", then told(1)", x.told(1), kept ? 3 : 0);
    if (kept) Ways.same(name + " changes nothing", Ways.toldAndRing(x), ahead);
    Runs.due(name + ", then lose(false)", x.lose(false), (there & 4) != 0 ? 1 : 0);
  }

  private static void heatStays() {
    Runs.play("2 from STOPPED to REST (HEAT stays): 100001 keeps it STOPPED", HEATING + """
        rule 2 -1584 = 0
        beat 200 = 4
        rule 2 0 = -1584
        beat 134 = 4
        told 11 = 100001
        order 2 = NOT
        told 0 = 4
        told 1 = 4
        """);
    Runs.play("2 from STOPPED to REST (HEAT stays): 100000 does not", HEATING + """
        rule 2 -1515 = 0
        beat 200 = 4
        rule 2 0 = -1515
        beat 118 = 4
        order 2 = NOT
        beat 1 = 4
        told 11 = 100000
        order 2 = 4
        told 11 = 100000
        beat 1 = 0
        told 11 = 99610
        """);
    Runs.play("of 2: CURRENT at TRIP does not keep it STOPPED, by 1 above it does", """
        order 0 = 0
        beat 1 = 1
        rule 3 149 = 20000
        beat 1 = 4
        told 2 = 141
        rule 3 140 = 149
        order 2 = NOT
        rule 3 141 = 140
        order 2 = 4
        """);
    Runs.play("of 2: BUS of 25000 does not keep it STOPPED, 25001 does", """
        rule 0 30000 = 10000
        beat 1 = 4
        order 2 = NOT
        rule 0 25001 = 30000
        order 2 = NOT
        rule 0 25000 = 25001
        order 2 = 4
        """);
  }

  private static void lostAside() {
    Runs.play("3 LOST aside: from STOPPED through ALIGN to RUN, where it is found again", Ways.RUN + """
        lose 1 = 0
        beat 1 = 4
        told 1 = 3
        order 2 = 4
        told 1 = 0
        order 0 = 0
        beat 64 = 2
        beat 1 = 4
        told 1 = 3
        order 2 = 4
        lose 0 = 1
        """);
    Runs.play("3 LOST aside: it does not let order 2 be taken in another STATE", Ways.RUN + """
        lose 1 = 0
        order 2 = NOT
        order 1 = 2
        order 2 = NOT
        order 3 = 3
        order 2 = NOT
        order 0 = 0
        order 2 = NOT
        """);
  }

  private static void toRestAtOnce() {
    Runs.play("3 .. to REST at once: with no BEAT between", Ways.RUN + """
        order 3 = 2
        told 0 = 0
        told 12 = 64
        order 0 = 0
        told 0 = 1
        order 3 = 1
        told 0 = 0
        told 17 = 0
        order 3 = NOT
        """);
  }

  private static void untilTheNextBeat() {
    String says = "ON-TIMES, volts and SUMS are set by a BEAT, not by an order: ";
    Runs.play(says + "RUN to BRAKE, whose first BEAT goes on with the SUMS of RUN", Ways.RUN + """
        rule 5 3000 = 0
        beat 20 = 2
        all = 2 0 -222 3005 3290 7022 3689 4503 3816 -45 619 5711 84 0 -60140 252040 703500 0
        order 1 = 2
        all = 3 0 -222 3005 3290 7022 3689 4503 3816 -45 619 5711 84 0 -60140 252040 703500 0
        beat 1 = 3
        all = 3 0 -201 2300 3477 7891 5183 3009 4894 -45 -1667 5770 85 0 -55700 190340 637700 0
        """);
    Runs.play(says + "RUN to REST to ALIGN with no BEAT between, whose RUN goes on with the SUMS", Ways.RUN + """
        rule 5 3000 = 0
        beat 20 = 2
        order 3 = 2
        order 0 = 0
        all = 1 0 -222 3005 3290 7022 3689 4503 3816 -45 619 5711 84 0 -60140 252040 703500 0
        beat 64 = 2
        all = 2 0 2287 -937 619 0 4464 3729 3729 600 0 9094 148 0 -60140 252040 703500 0
        beat 1 = 2
        all = 2 0 1593 406 561 140 1392 7803 390 -2201 5227 9100 149 0 -105880 350780 703500 0
        """);
    Runs.play(says + "RUN to REST to ALIGN with a BEAT between, which sets them to 0", Ways.RUN + """
        rule 5 3000 = 0
        beat 20 = 2
        order 3 = 2
        beat 1 = 0
        all = 0 0 -190 2716 3477 7891 0 0 0 0 0 5802 85 0 0 0 0 0
        order 0 = 0
        beat 64 = 2
        all = 2 0 2290 -904 566 0 4464 3729 3729 600 0 9084 149 0 0 0 0 0
        """);
    Runs.play(says + "OVER is that of the latest BEAT, behind each order", """
        rule 0 100 = 10000
        order 0 = 0
        beat 64 = 2
        told 13 = 1
        order 1 = 2
        told 13 = 1
        order 3 = 3
        told 13 = 1
        order 0 = 0
        told 13 = 1
        order 3 = 1
        told 13 = 1
        beat 1 = 0
        told 13 = 0
        """);
  }
}
