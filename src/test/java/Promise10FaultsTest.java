/** Promise 10: faults by rank, which cut all wires within the beat. */
public final class Promise10FaultsTest {
  public static void main(String[] args) {
    withinTheBeat();
    ranks();
    Runs.end();
  }

  private static void withinTheBeat() {
    Runs.play("a lost line in RUN: SUMS, volts and wires are 0 within the beat", """
        order 0 = 0
        beat 64 = 2
        rule 5 3000 = 0
        beat 10 = 2
        all = 2 0 -316 3331 1172 1153 3620 5106 3086 -267 1452 4156 74 0 -122920 280160 530980 0
        lose 1 = 0
        beat 1 = 4
        all = 4 3 -289 3088 1380 1498 0 0 0 0 0 4286 75 0 0 0 0 0
        ring 0 0 = 74
        ring 0 1 = 4
        ring 0 2 = 3
        """);
  }

  private static void ranks() {
    Runs.play("CURRENT ahead of VOLTS", """
        order 0 = 0
        beat 2 = 1
        rule 3 289 = 20000
        rule 0 25001 = 10000
        beat 1 = 4
        told 1 = 1
        """);
    Runs.play("VOLTS ahead of LOST", """
        order 0 = 0
        beat 64 = 2
        lose 1 = 0
        rule 0 25001 = 10000
        beat 1 = 4
        told 1 = 2
        """);
    Runs.play("LOST ahead of HEAT", """
        order 0 = 0
        beat 64 = 2
        rule 5 60000 = 0
        rule 1 20000 = 4000
        gain 2 0 4000 = 200
        beat 44 = 2
        told 11 = 101281
        lose 1 = 0
        beat 1 = 4
        told 1 = 3
        """);
    Runs.play("a fault of higher rank does not take the place of the one it stopped for", """
        order 0 = 0
        beat 64 = 2
        lose 1 = 0
        beat 1 = 4
        told 1 = 3
        rule 0 25001 = 10000
        rule 3 100 = 20000
        beat 2 = 4
        told 1 = 3
        ring 0 0 = 64
        ring 0 2 = 3
        ring 2 0 = 0
        ring 3 0 = NONE
        """);
    Runs.play("found at REST behind the order, in the next beat", """
        rule 0 25001 = 10000
        order 0 = 0
        told 0 = 1
        beat 1 = 4
        all = 4 2 0 0 0 0 0 0 0 0 0 0 1 0 0 0 0 0
        """);
  }
}
