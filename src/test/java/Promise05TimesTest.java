/** Promise 5: on-times of the three wires, and whether one would have been out of its bounds. */
public final class Promise05TimesTest {
  public static void main(String[] args) {
    Runs.play("ordinary vectors", """
        times 0 0 0 = 4096
        times 0 0 1 = 4096
        times 0 0 2 = 4096
        times 0 0 3 = 0
        times 4000 0 0 = 6553
        times 4000 0 1 = 1639
        times 4000 0 2 = 1639
        times 3000 -2000 0 = 6648
        times 3000 -2000 1 = 1543
        times 3000 -2000 2 = 4381
        times 3000 -2000 3 = 0
        times -1500 4000 0 = 2253
        times -1500 4000 1 = 6933
        times -1500 4000 2 = 1259
        """);
    Runs.play("v is rounded down, the rest is cut towards 0", """
        rule 0 100 = 10000
        times 1 0 0 = 4177
        times 1 0 1 = 4015
        times 1 0 2 = 4096
        times 1 0 3 = 0
        rule 0 8192 = 100
        times -4003 0 0 = 1093
        times -4003 0 1 = 7097
        times -4003 0 2 = 7098
        times -4000 0 1 = 7096
        times -4000 0 2 = 7096
        rule 0 16000 = 8192
        times 0 5001 1 = 6313
        times 0 5001 2 = 1879
        """);
    Runs.play("0 and 8192 themselves are not OVER", """
        rule 0 8192 = 10000
        times 0 4730 1 = 8192
        times 0 4730 2 = 0
        times 0 4730 3 = 0
        times 0 4731 1 = 8192
        times 0 4731 2 = 0
        times 0 4731 3 = 1
        times 0 -4729 1 = 0
        times 0 -4729 2 = 8192
        times 0 -4729 3 = 0
        times 0 -4730 1 = 0
        times 0 -4730 2 = 8192
        times 0 -4730 3 = 1
        # one wire alone, by 1
        times -5223 -413 0 = 0
        times -5223 -413 2 = 8192
        times -5223 -413 3 = 1
        times -3928 2658 0 = 0
        times -3928 2658 1 = 8192
        times -3928 2658 3 = 1
        """);
    Runs.play("the greatest vectors and the least and greatest BUS", """
        rule 0 30000 = 10000
        times -32000 -32000 0 = 0
        times -32000 -32000 1 = 0
        times -32000 -32000 2 = 8192
        times -32000 -32000 3 = 1
        times 15000 0 0 = 7168
        times 15000 0 1 = 1024
        times 15000 0 3 = 0
        rule 0 100 = 30000
        times 32000 32000 0 = 8192
        times 32000 32000 1 = 8192
        times 32000 32000 2 = 0
        times 32000 32000 3 = 1
        """);
    Runs.play("out of bounds", """
        times 32001 0 0 = OUTSIDE
        times -32001 0 0 = OUTSIDE
        times 0 32001 0 = OUTSIDE
        times 0 -32001 3 = OUTSIDE
        times 0 0 -1 = OUTSIDE
        times 0 0 4 = OUTSIDE
        times LEAST 0 0 = OUTSIDE
        times 0 GREATEST 0 = OUTSIDE
        times 0 0 LEAST = OUTSIDE
        """);
    Runs.play("what is asked does not change the wires that are led", """
        order 0 = 0
        beat 1 = 1
        times 32000 -32000 3 = 1
        told 6 = 4464
        told 7 = 3729
        told 8 = 3729
        told 13 = 0
        """);
    Runs.end();
  }
}
