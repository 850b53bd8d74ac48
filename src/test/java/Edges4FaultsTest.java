/** Part 4 of 'Terms': each FAULT at its bound and just beyond it, in each STATE, and the least of several. */
public final class Edges4FaultsTest {
  // HEAT is 94653 behind 40 BEATS of RUN, and 101281, above its bound, behind 44.
  private static final String HEATING = """
      order 0 = 0
      beat 64 = 2
      rule 5 60000 = 0
      rule 1 20000 = 4000
      gain 2 0 4000 = 200
      """;
  private static final String WARM = HEATING + "beat 40 = 2\ntold 11 = 94653\n";
  private static final String HOT = HEATING + "beat 44 = 2\ntold 11 = 101281\n";

  public static void main(String[] args) {
    currentAtTrip();
    tripAsAtFirst();
    tripFromEndToEnd();
    volts();
    lost();
    heat();
    for (int there = 0; there < 16; there++) theLeastOfThem(there);
    stoppedStaysAsItIs();
    Runs.end();
  }

  private static void currentAtTrip() {
    String says = "CURRENT: D or Q above TRIP in size: ";
    Runs.play(says + "D at it, and above it by 1", """
        order 0 = 0
        beat 1 = 1
        told 2 = 150
        rule 3 150 = 20000
        beat 1 = 1
        told 1 = 0
        told 2 = 290
        rule 3 289 = 150
        beat 1 = 4
        all = 4 1 272 0 0 0 0 0 0 0 0 2 3 0 0 0 0 0
        """);
    String below = """
        order 0 = 0
        beat 64 = 2
        rule 5 20000 = 0
        rule 4 0 = 40000
        beat 300 = 2
        told 2 = -1263
        told 3 = -76
        """;
    Runs.play(says + "D at it, below 0", below + """
        rule 3 1263 = 20000
        beat 1 = 2
        told 1 = 0
        """);
    Runs.play(says + "D beyond it by 1, below 0", below + """
        rule 3 1262 = 20000
        beat 1 = 4
        told 1 = 1
        told 9 = 0
        """);
    String forward = """
        order 0 = 0
        beat 64 = 2
        rule 5 3000 = 0
        beat 10 = 2
        told 2 = -316
        told 3 = 3331
        """;
    Runs.play(says + "Q at it", forward + """
        rule 3 3331 = 20000
        beat 1 = 2
        told 1 = 0
        """);
    Runs.play(says + "Q above it by 1", forward + """
        rule 3 3330 = 20000
        beat 1 = 4
        told 1 = 1
        told 10 = 0
        """);
    String dragged = """
        rule 2 -2000 = 0
        beat 100 = 0
        told 2 = -253
        told 3 = -2077
        """;
    Runs.play(says + "Q at it, below 0, at REST", dragged + """
        rule 3 2077 = 20000
        beat 1 = 0
        told 1 = 0
        """);
    Runs.play(says + "Q beyond it by 1, below 0, at REST", dragged + """
        rule 3 2076 = 20000
        beat 1 = 4
        told 1 = 1
        """);
    Runs.play(says + "in BRAKE", forward + """
        order 1 = 2
        rule 3 3331 = 20000
        beat 1 = 3
        told 3 = 2874
        rule 3 100 = 3331
        beat 1 = 4
        told 1 = 1
        """);
  }

  private static void tripAsAtFirst() {
    String fast = """
        order 0 = 0
        beat 64 = 2
        rule 1 20000 = 4000
        gain 2 0 4000 = 200
        """;
    String says = "TRIP 100 .. 32000; 20000 at first: ";
    Runs.play(says + "Q of 20000", fast + """
        rule 0 25000 = 10000
        rule 2 -311 = 0
        rule 5 60000 = 0
        gain 1 0 93 = 200
        beat 12 = 2
        told 3 = 20000
        beat 1 = 2
        told 1 = 0
        told 3 = 20646
        beat 1 = 4
        told 1 = 1
        """);
    Runs.play(says + "Q of 20001", fast + """
        rule 0 20000 = 10000
        rule 5 60000 = 0
        gain 1 0 82 = 200
        beat 12 = 2
        told 3 = 20001
        beat 1 = 4
        told 1 = 1
        """);
    Runs.play(says + "Q of -20000", fast + """
        rule 0 25000 = 10000
        rule 2 37 = 0
        rule 5 -60000 = 0
        gain 1 0 118 = 200
        beat 12 = 2
        told 3 = -20000
        beat 1 = 2
        told 1 = 0
        """);
    Runs.play(says + "Q of -20001", fast + """
        rule 0 25000 = 10000
        rule 5 -60000 = 0
        gain 1 0 118 = 200
        beat 12 = 2
        told 3 = -20001
        beat 1 = 4
        told 1 = 1
        """);
  }

  private static void tripFromEndToEnd() {
    String says = "TRIP 100 .. 32000; 20000 at first: ";
    Runs.play(says + "99 and 32001 are refused", """
        rule 3 99 = OUTSIDE
        rule 3 32001 = OUTSIDE
        rule 3 100 = 20000
        rule 3 99 = OUTSIDE
        rule 3 32000 = 100
        rule 3 32001 = OUTSIDE
        rule 3 20000 = 32000
        """);
    Runs.play(says + "100, with a D current of 100", """
        order 0 = 0
        beat 11 = 1
        order 3 = 1
        beat 40 = 0
        told 2 = 100
        rule 3 100 = 20000
        beat 1 = 0
        told 1 = 0
        """);
    Runs.play(says + "100, with a D current of 101", """
        order 0 = 0
        beat 2 = 1
        order 3 = 1
        beat 17 = 0
        told 2 = 101
        rule 3 100 = 20000
        beat 1 = 4
        told 1 = 1
        """);
    Runs.play(says + "32000, with a D current of 32000", """
        order 0 = 0
        beat 64 = 2
        rule 0 25000 = 10000
        rule 3 32000 = 20000
        rule 4 60000 = 40000
        rule 5 30000 = 0
        beat 400 = 2
        beat 400 = 2
        rule 4 0 = 60000
        beat 4 = 2
        rule 4 60000 = 0
        gain 0 0 0 = 200
        gain 0 1 3150 = 20
        beat 1 = 2
        gain 0 1 0 = 3150
        rule 1 8000 = 4000
        rule 5 60000 = 30000
        gain 2 0 4000 = 200
        beat 11 = 2
        told 2 = 32000
        beat 1 = 2
        told 1 = 0
        told 2 = 32000
        rule 3 31999 = 32000
        beat 1 = 4
        told 1 = 1
        """);
  }

  private static void volts() {
    String says = "VOLTS: BUS above 25000: ";
    for (int state = 0; state < 4; state++) {
      Runs.play(says + "25000 in STATE " + state, Ways.TO[state]
          + "rule 0 25000 = 10000\nbeat 1 = " + state + "\ntold 1 = 0\n");
      Runs.play(says + "25001 in STATE " + state, Ways.TO[state]
          + "rule 0 25001 = 10000\nbeat 1 = 4\ntold 1 = 2\n"
          + "told 6 = 0\ntold 7 = 0\ntold 8 = 0\ntold 9 = 0\ntold 10 = 0\n");
      Runs.play(says + "30000, the greatest, in STATE " + state, Ways.TO[state]
          + "rule 0 30000 = 10000\nbeat 1 = 4\ntold 1 = 2\n");
    }
    Runs.play(says + "at the bound as long as it runs", Ways.RUN + """
        rule 0 25000 = 10000
        beat 400 = 2
        told 1 = 0
        """);
  }

  private static void lost() {
    String says = "LOST: the ANGLE's line is told to be lost, and the STATE is RUN or BRAKE: ";
    Runs.play(says + "not at REST", """
        lose 1 = 0
        beat 400 = 0
        told 1 = 0
        ring 0 0 = NONE
        """);
    Runs.play(says + "not in ALIGN, not in its 64th BEAT either, but in the first of RUN", """
        order 0 = 0
        lose 1 = 0
        beat 63 = 1
        told 1 = 0
        beat 1 = 2
        told 1 = 0
        told 9 = 600
        beat 1 = 4
        told 1 = 3
        ring 0 0 = 64
        ring 1 0 = 63
        ring 1 1 = 2
        """);
    Runs.play(says + "in RUN", Ways.RUN + """
        lose 1 = 0
        told 0 = 2
        beat 1 = 4
        told 1 = 3
        """);
    Runs.play(says + "in BRAKE", Ways.BRAKE + """
        lose 1 = 0
        told 0 = 3
        beat 1 = 4
        told 1 = 3
        """);
    Runs.play(says + "not behind an order to REST", Ways.RUN + """
        lose 1 = 0
        order 3 = 2
        beat 1 = 0
        told 1 = 0
        """);
    Runs.play(says + "not in STOPPED, where another FAULT stays", Ways.STOPPED + """
        lose 1 = 0
        beat 1 = 4
        told 1 = 2
        """);
    Runs.play(says + "not if it is told to be there again", Ways.RUN + """
        lose 1 = 0
        lose 0 = 1
        beat 1 = 2
        told 1 = 0
        """);
  }

  private static void heat() {
    String says = "HEAT: HEAT is above 100000: ";
    Runs.play(says + "100000 in RUN", HEATING + """
        rule 2 -1554 = 0
        beat 56 = 2
        told 11 = 100000
        beat 1 = 2
        told 1 = 0
        """);
    Runs.play(says + "100001 in RUN", HEATING + """
        rule 2 -1552 = 0
        beat 56 = 2
        told 11 = 100001
        beat 1 = 4
        told 1 = 4
        told 9 = 0
        """);
    Runs.play(says + "in BRAKE", HOT + """
        order 1 = 2
        beat 1 = 4
        told 1 = 4
        """);
    Runs.play(says + "at REST", HOT + """
        order 3 = 2
        beat 1 = 4
        told 1 = 4
        """);
    Runs.play(says + "in ALIGN", HOT + """
        order 3 = 2
        order 0 = 0
        beat 1 = 4
        told 1 = 4
        told 17 = 0
        """);
    Runs.play(says + "100000 at REST and in ALIGN", HEATING + """
        rule 2 -1554 = 0
        beat 56 = 2
        told 11 = 100000
        order 3 = 2
        order 0 = 0
        beat 1 = 1
        told 1 = 0
        """);
  }

  /** Every choice of the four FAULTS at once: bit k stands for FAULT k + 1. */
  private static void theLeastOfThem(int there) {
    int due = there == 0 ? 0 : Integer.numberOfTrailingZeros(there) + 1;
    String name = "with the least of them: FAULTS by bits " + Integer.toBinaryString(there);
    TurnedFields x = Runs.play(name, (there & 8) != 0 ? HOT : WARM);
    if ((there & 1) != 0) x.rule(3, 100);
    if ((there & 2) != 0) x.rule(0, 25001);
    if ((there & 4) != 0) x.lose(true);
    Runs.due(name + ", told(1) ahead of the BEAT", x.told(1), 0);
    int number = x.told(12);
    Runs.due(name + ", beat(1)", x.beat(1), there == 0 ? 2 : 4);
    Runs.due(name + ", told(1)", x.told(1), due);
    Runs.due(name + ", ring(0, 0)", x.ring(0, 0), there == 0 ? 63 : number);
    Runs.due(name + ", ring(0, 1)", x.ring(0, 1), there == 0 ? 2 : 4);
    Runs.due(name + ", ring(0, 2)", x.ring(0, 2), due);
    if (there == 0) return;
    for (int what = 6; what <= 10; what++) Runs.due(name + ", told(" + what + ")", x.told(what), 0);
    for (int what = 13; what <= 17; what++) Runs.due(name + ", told(" + what + ")", x.told(what), 0);
  }

  private static void stoppedStaysAsItIs() {
    String says = "and the STATE is not STOPPED: ";
    Runs.play(says + "a lesser FAULT that comes later does not take the place of the first", HOT + """
        beat 1 = 4
        told 1 = 4
        rule 3 100 = 20000
        rule 0 25001 = 10000
        lose 1 = 0
        beat 1 = 4
        told 1 = 4
        ring 0 0 = 108
        ring 0 2 = 4
        ring 1 1 = 2
        """);
    Runs.play(says + "a FAULT that is gone keeps it STOPPED, without a change more", Ways.STOPPED + """
        beat 400 = 4
        told 1 = 2
        ring 0 0 = 0
        ring 1 0 = NONE
        """);
  }
}
