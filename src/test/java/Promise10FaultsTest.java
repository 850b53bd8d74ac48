/** Promise 10: faults by rank, which cut all wires within the beat. */
public final class Promise10FaultsTest {
  public static void main(String[] args) {
    eachFault();
    ranks();
    Runs.end();
  }

  private static void eachFault() {
    Runs.play("D at TRIP is no fault, above it is, and cuts the wires within the beat", """
        order 0 = 0
        beat 1 = 1
        told 2 = 150
        rule 3 150 = 20000
        beat 1 = 1
        told 2 = 290
        rule 3 289 = 150
        beat 1 = 4
        all = 4 1 272 0 0 0 0 0 0 0 0 2 3 0 0 0 0 0
        ring 0 0 = 2
        ring 0 1 = 4
        ring 0 2 = 1
        """);
    Runs.play("Q above TRIP in size, below 0, at REST", """
        rule 2 -2000 = 0
        beat 100 = 0
        told 3 = -2077
        told 2 = -253
        rule 3 1960 = 20000
        rule 2 2000 = -2000
        beat 1 = 4
        told 1 = 1
        told 3 = -2077
        """);
    Runs.play("D above TRIP in size, below 0", """
        order 0 = 0
        beat 64 = 2
        rule 5 20000 = 0
        rule 4 0 = 40000
        beat 300 = 2
        told 2 = -1263
        told 3 = -76
        rule 3 1000 = 20000
        beat 1 = 4
        told 1 = 1
        """);
    Runs.play("BUS of 25000 is no fault, 25001 is", """
        rule 0 25000 = 10000
        beat 1 = 0
        rule 0 25001 = 25000
        beat 1 = 4
        told 1 = 2
        ring 0 0 = 1
        ring 0 2 = 2
        """);
    Runs.play("a lost line in RUN: SUMS, volts and wires are 0 within the beat", """
        order 0 = 0
        beat 64 = 2
        rule 5 3000 = 0
        beat 10 = 2
        all = 2 0 -316 3331 1172 1153 3620 5106 3086 -267 1452 4156 74 0 -122920 280160 530980 0
        lose 1 = 0
        beat 1 = 4
        all = 4 3 -289 3088 1380 1498 0 0 0 0 0 4286 75 0 0 0 0 0
        ring 0 0 = 74
        ring 0 1 = 4
        ring 0 2 = 3
        """);
    String hot = """
        order 0 = 0
        beat 64 = 2
        rule 5 60000 = 0
        rule 1 20000 = 4000
        gain 2 0 4000 = 200
        """;
    Runs.play("HEAT of 100000 is no fault", hot + """
        rule 2 -1554 = 0
        beat 56 = 2
        told 11 = 100000
        beat 1 = 2
        told 11 = 100169
        """);
    Runs.play("HEAT of 100001 is", hot + """
        rule 2 -1552 = 0
        beat 56 = 2
        told 11 = 100001
        beat 1 = 4
        told 1 = 4
        ring 0 0 = 120
        ring 0 2 = 4
        """);
  }

  private static void ranks() {
    Runs.play("CURRENT ahead of VOLTS", """
        order 0 = 0
        beat 2 = 1
        rule 3 289 = 20000
        rule 0 25001 = 10000
        beat 1 = 4
        told 1 = 1
        """);
    Runs.play("VOLTS ahead of LOST", """
        order 0 = 0
        beat 64 = 2
        lose 1 = 0
        rule 0 25001 = 10000
        beat 1 = 4
        told 1 = 2
        """);
    Runs.play("LOST ahead of HEAT", """
        order 0 = 0
        beat 64 = 2
        rule 5 60000 = 0
        rule 1 20000 = 4000
        gain 2 0 4000 = 200
        beat 44 = 2
        told 11 = 101281
        lose 1 = 0
        beat 1 = 4
        told 1 = 3
        """);
    Runs.play("a fault of higher rank does not take the place of the one it stopped for", """
        order 0 = 0
        beat 64 = 2
        lose 1 = 0
        beat 1 = 4
        told 1 = 3
        rule 0 25001 = 10000
        rule 3 100 = 20000
        beat 2 = 4
        told 1 = 3
        ring 0 0 = 64
        ring 0 2 = 3
        ring 2 0 = 0
        ring 3 0 = NONE
        """);
    Runs.play("the fault that is gone keeps it STOPPED", """
        rule 0 25001 = 10000
        beat 1 = 4
        rule 0 10000 = 25001
        beat 400 = 4
        told 1 = 2
        """);
    Runs.play("found at REST behind the order, in the next beat", """
        rule 0 25001 = 10000
        order 0 = 0
        told 0 = 1
        beat 1 = 4
        all = 4 2 0 0 0 0 0 0 0 0 0 0 1 0 0 0 0 0
        """);
  }
}
