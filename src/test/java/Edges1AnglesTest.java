/** Part 1 of 'Terms': ends of the ANGLES, sums of them, and bounds of the ON-TIMES. */
public final class Edges1AnglesTest {
  public static void main(String[] args) {
    anglesFromEndToEnd();
    sumsModuloATurn();
    signOfTheSine();
    onTimesWithinTheirBounds();
    overByOneWireAlone();
    overInABeat();
    busFromEndToEnd();
    Runs.end();
  }

  private static void anglesFromEndToEnd() {
    Runs.play("ANGLES are 0 to 65535: both ends, and just beyond them", """
        sine 0 = 0
        sine 65535 = -3
        sine -1 = OUTSIDE
        sine 65536 = OUTSIDE
        turned 1000 500 0 2 = 999
        turned 1000 500 65535 2 = 999
        turned 1000 500 65535 3 = 1154
        turned 1000 500 -1 2 = OUTSIDE
        turned 1000 500 65536 2 = OUTSIDE
        # ALPHA and BETA need no ANGLE, and are refused all the same
        turned 1000 500 -1 0 = OUTSIDE
        turned 1000 500 65536 1 = OUTSIDE
        back 1000 500 0 0 = 999
        back 1000 500 65535 0 = 999
        back 1000 500 65535 1 = 499
        back 1000 500 -1 0 = OUTSIDE
        back 1000 500 65536 1 = OUTSIDE
        """);
  }

  private static void sumsModuloATurn() {
    String says = "a sum is taken modulo 65536: the COSINE ";
    Runs.play(says + "of 49151, 49152 and 49153, the last of which is past the turn's end", """
        back 32000 0 49151 0 = -3
        back 32000 0 49152 0 = 0
        back 32000 0 49153 0 = 2
        turned 32000 -16000 49151 2 = -3
        turned 32000 -16000 49152 2 = 0
        turned 32000 -16000 49153 2 = 2
        """);
    Runs.play(says + "of 65535 is nearly 1, that of 57344 as its SINE in size", """
        back 32000 0 65535 0 = 31998
        back 32000 0 57344 0 = 22586
        back 32000 0 57344 1 = -22587
        """);
    Runs.play(says + "is below 0 from 16385 up to 49151", """
        back 32000 0 16383 0 = 2
        back 32000 0 16384 0 = 0
        back 32000 0 16385 0 = -3
        back 32000 0 32768 0 = -32000
        """);
  }

  private static void signOfTheSine() {
    Runs.play("less than 0 from 32768 on, where it is 0 itself", """
        sine 32766 = 6
        sine 32767 = 3
        sine 32768 = 0
        sine 32769 = -3
        sine 32770 = -6
        sine 16384 = 32767
        sine 49152 = -32767
        sine 16383 = 32766
        sine 16385 = 32766
        sine 49151 = -32766
        sine 49153 = -32766
        """);
  }

  private static void onTimesWithinTheirBounds() {
    String says = "but not below 0 nor above 8192: ";
    // With a BUS of 8192 an ON-TIME is the wire's volts less m, and 4096.
    Runs.play(says + "exactly there, which is not OVER", """
        rule 0 8192 = 10000
        times 4802 -1141 0 = 8192
        times 4802 -1141 1 = 0
        times 4802 -1141 2 = 1978
        times 4802 -1141 3 = 0
        times -4878 1011 0 = 0
        times -4878 1011 1 = 8192
        times -4878 1011 2 = 6442
        times -4878 1011 3 = 0
        times -1878 -4729 0 = 1279
        times -1878 -4729 1 = 0
        times -1878 -4729 2 = 8192
        times -1878 -4729 3 = 0
        times 1473 4730 0 = 6305
        times 1473 4730 1 = 8191
        times 1473 4730 2 = 0
        times 1473 4730 3 = 0
        """);
    Runs.play(says + "far beyond", """
        rule 0 100 = 10000
        times 32000 0 0 = 8192
        times 32000 0 1 = 0
        times 32000 0 2 = 0
        times -32000 0 0 = 0
        times -32000 0 1 = 8192
        times -32000 0 2 = 8192
        times 0 32000 0 = 4096
        times 0 32000 1 = 8192
        times 0 32000 2 = 0
        times 0 -32000 1 = 0
        times 0 -32000 2 = 8192
        """);
  }

  private static void overByOneWireAlone() {
    String bus = """
        rule 0 8192 = 10000
        """;
    String says = "OVER: one would have been: ";
    Runs.play(says + "u alone above, by 1", bus + """
        times 4938 -907 0 = 8192
        times 4938 -907 1 = 0
        times 4938 -907 2 = 1572
        times 4938 -907 3 = 1
        """);
    Runs.play(says + "u alone below, by 1", bus + """
        times -4530 1615 0 = 0
        times -4530 1615 1 = 8192
        times -4530 1615 2 = 5396
        times -4530 1615 3 = 1
        """);
    Runs.play(says + "v alone above, by 1", bus + """
        times -1553 4731 0 = 1767
        times -1553 4731 1 = 8192
        times -1553 4731 2 = 0
        times -1553 4731 3 = 1
        """);
    Runs.play(says + "v alone below, by 1", bus + """
        times 3481 -3431 0 = 8192
        times 3481 -3431 1 = 0
        times 3481 -3431 2 = 5942
        times 3481 -3431 3 = 1
        """);
    Runs.play(says + "w alone above, by 1", bus + """
        times -3185 -3943 0 = 0
        times -3185 -3943 1 = 1362
        times -3185 -3943 2 = 8192
        times -3185 -3943 3 = 1
        """);
    Runs.play(says + "w alone below, by 1", bus + """
        times 809 4731 0 = 5309
        times 809 4731 1 = 8192
        times 809 4731 2 = 0
        times 809 4731 3 = 1
        """);
    Runs.play(says + "and one behind it that is not, is not", bus + """
        times 32000 32000 3 = 1
        times 0 0 3 = 0
        """);
  }

  private static void overInABeat() {
    Runs.play("OVER in ALIGN: by the BUS alone, at it and just beyond it", """
        rule 0 900 = 10000
        order 0 = 0
        beat 1 = 1
        told 6 = 8192
        told 7 = 10
        told 8 = 19
        told 13 = 0
        rule 0 899 = 900
        beat 1 = 1
        told 6 = 8192
        told 7 = 5
        told 8 = 14
        told 13 = 1
        """);
  }

  private static void busFromEndToEnd() {
    Runs.play("BUS (100 .. 30000; 10000 at first)", """
        times 49 0 0 = 4126
        rule 0 99 = OUTSIDE
        rule 0 30001 = OUTSIDE
        rule 0 100 = 10000
        times 49 0 0 = 7127
        times 66 0 0 = 8192
        times 66 0 3 = 0
        times 67 0 3 = 1
        rule 0 99 = OUTSIDE
        times 49 0 0 = 7127
        rule 0 30000 = 100
        times 49 0 0 = 4106
        times 19999 0 0 = 8192
        times 19999 0 3 = 0
        times 20004 0 3 = 0
        times 20005 0 3 = 1
        rule 0 30001 = OUTSIDE
        rule 0 10000 = 30000
        """);
  }
}
