/** Part 3 of 'Terms': bounds of the MOTOR's currents, PACE and LOAD, and its ANGLE past a turn's ends. */
public final class Edges3MotorTest {
  public static void main(String[] args) {
    loadFromEndToEnd();
    anglePastATurnsEnds();
    allByWhatWas();
    voltsWhereWiresAreOff();
    currentsAndPaceWithinTheirBounds();
    Runs.end();
  }

  private static void loadFromEndToEnd() {
    Runs.play("LOAD (-2000 .. 2000; 0 at first)", """
        beat 1 = 0
        told 4 = 0
        rule 2 2001 = OUTSIDE
        beat 1 = 0
        told 4 = 0
        rule 2 2000 = 0
        beat 1 = 0
        told 4 = -125
        rule 2 -2001 = OUTSIDE
        rule 2 -2000 = 2000
        beat 1 = 0
        told 4 = 0
        beat 1 = 0
        told 4 = 125
        rule 2 2001 = OUTSIDE
        rule 2 0 = -2000
        """);
  }

  private static void anglePastATurnsEnds() {
    String says = "a sum is taken modulo 65536: the MOTOR's ANGLE ";
    Runs.play(says + "from 0 down to 65535, on at no PACE, and from there up to 0", """
        rule 2 16 = 0
        beat 1 = 0
        told 4 = -1
        told 5 = 65535
        rule 2 -16 = 16
        beat 1 = 0
        told 4 = 0
        told 5 = 65535
        rule 2 -64 = -16
        beat 1 = 0
        told 4 = 4
        told 5 = 0
        beat 1 = 0
        told 4 = 8
        told 5 = 2
        """);
    Runs.play(says + "turns with the PACE as it is behind the step", """
        rule 2 -2000 = 0
        beat 1 = 0
        told 4 = 125
        told 5 = 31
        rule 2 2000 = -2000
        beat 1 = 0
        told 4 = 0
        told 5 = 31
        """);
    Runs.play(says + "goes through both ends in RUN, and the vector with it", """
        order 0 = 0
        beat 64 = 2
        rule 5 20000 = 0
        beat 49 = 2
        told 5 = 62822
        beat 1 = 2
        all = 2 0 70 3637 10909 13 4485 5682 2509 -273 2244 11963 114 0 -55840 502200 0 0
        beat 1 = 2
        all = 2 0 71 3636 11136 2797 3750 5707 2485 -279 2273 12118 115 0 -57240 509460 0 0
        rule 5 -20000 = 20000
        beat 106 = 2
        told 5 = 1952
        beat 1 = 2
        all = 2 0 81 -3635 -12277 64418 4270 2366 5826 -317 -2421 25931 222 0 -64740 -546760 0 0
        beat 1 = 2
        all = 2 0 81 -3635 -12504 61292 3376 2393 5799 -323 -2450 26031 223 0 -66360 -554060 0 0
        """);
  }

  private static void allByWhatWas() {
    Runs.play("all by what was: each of D, Q and PACE is led by the others ahead of the step", """
        order 0 = 0
        beat 64 = 2
        rule 5 20000 = 0
        beat 40 = 2
        all = 2 0 48 3655 8636 40834 5388 2803 4979 -206 1950 10370 104 0 -43860 431180 0 0
        order 3 = 2
        beat 1 = 0
        all = 0 0 105 3157 8864 43050 0 0 0 0 0 10482 105 0 0 0 0 0
        """);
  }

  private static void voltsWhereWiresAreOff() {
    Runs.play("Volts 0 where wires are off", """
        order 0 = 0
        beat 5 = 1
        told 9 = 600
        order 3 = 1
        beat 1 = 0
        told 9 = 0
        told 10 = 0
        order 0 = 0
        beat 64 = 2
        rule 5 3000 = 0
        beat 3 = 2
        told 10 = 2064
        lose 1 = 0
        beat 1 = 4
        told 9 = 0
        told 10 = 0
        told 6 = 0
        told 7 = 0
        told 8 = 0
        """);
  }

  private static void currentsAndPaceWithinTheirBounds() {
    String fast = """
        order 0 = 0
        beat 64 = 2
        rule 0 25000 = 10000
        rule 3 32000 = 20000
        rule 4 60000 = 40000
        """;
    Runs.play("PACE (within 60000 in size): PACE up to 60000", fast + """
        rule 5 60000 = 0
        rule 2 -2000 = 0
        beat 177 = 2
        all = 2 0 16 2858 59816 14476 3551 6284 1908 -1468 7653 24867 241 0 -366580 1976360 646260 0
        beat 1 = 2
        all = 2 0 -20 2701 60000 29476 2198 5975 5994 -1446 7568 24881 242 0 -366900 1972840 649940 0
        beat 1 = 2
        all = 2 0 -64 2552 60000 44476 3599 1931 6261 -1417 7566 24883 243 0 -366500 1969580 649940 0
        # and the ANGLE past the turn's end, by a 4th of the PACE as it was bounded
        beat 1 = 2
        told 4 = 60000
        told 5 = 59476
        beat 1 = 2
        told 4 = 60000
        told 5 = 8940
        """);
    Runs.play("PACE (within 60000 in size): PACE down to -60000", fast + """
        rule 5 -60000 = 0
        rule 2 2000 = 0
        beat 178 = 2
        all = 2 0 -20 -2705 -60000 35913 2183 6009 5930 -1446 -7571 24872 242 0 -367000 -1973440 -650220 0
        beat 1 = 2
        all = 2 0 -63 -2555 -60000 20913 3651 6264 1928 -1417 -7567 24874 243 0 -366600 -1970140 -650220 0
        beat 1 = 2
        told 4 = -60000
        told 5 = 5913
        beat 1 = 2
        told 4 = -60000
        told 5 = 56449
        """);
    Runs.play("currents D, Q (within 32000 in size): Q up to 32000", fast + """
        rule 2 2000 = 0
        rule 5 -58000 = 0
        beat 250 = 2
        rule 1 20000 = 4000
        rule 5 60000 = -58000
        gain 2 0 4000 = 200
        gain 1 0 0 = 200
        gain 1 1 240 = 20
        beat 1 = 2
        gain 1 1 0 = 240
        beat 10 = 2
        all = 2 0 -6947 32000 -45891 15842 260 5203 7932 8723 10588 115044 325 0 895020 2710740 406320 0
        beat 1 = 4
        all = 4 4 -9313 30827 -44016 4838 0 0 0 0 0 130418 326 0 0 0 0 0
        """);
    Runs.play("currents D, Q (within 32000 in size): Q down to -32000", fast + """
        rule 2 -2000 = 0
        rule 5 58000 = 0
        beat 250 = 2
        rule 1 20000 = 4000
        rule 5 -60000 = 58000
        gain 2 0 4000 = 200
        gain 1 0 0 = 200
        gain 1 1 240 = 20
        beat 1 = 2
        gain 1 1 0 = 240
        beat 10 = 2
        all = 2 0 -6946 -32000 45891 49488 248 7944 5074 8723 -10590 115050 325 0 895120 -2710800 -406460 0
        """);
    Runs.play("currents D, Q (within 32000 in size): D up to 32000", fast + """
        rule 5 30000 = 0
        beat 400 = 2
        beat 400 = 2
        rule 4 0 = 60000
        beat 4 = 2
        rule 4 60000 = 0
        gain 0 0 0 = 200
        gain 0 1 3150 = 20
        beat 1 = 2
        gain 0 1 0 = 3150
        rule 1 8000 = 4000
        rule 5 60000 = 30000
        gain 2 0 4000 = 200
        beat 11 = 2
        all = 2 0 32000 3283 32190 53437 6821 0 8192 14410 11388 83234 880 1 3688970 2014480 -2060 0
        beat 1 = 2
        all = 2 0 32000 3089 32395 61535 8192 0 3584 14410 11922 98679 881 1 3688970 2108820 -2060 0
        """);
    Runs.play("currents D, Q (within 32000 in size): D down to -32000", fast + """
        rule 5 58000 = 0
        beat 300 = 2
        rule 4 0 = 60000
        gain 0 0 0 = 200
        gain 0 1 1200 = 20
        beat 1 = 2
        gain 0 1 0 = 1200
        rule 1 14000 = 4000
        rule 5 0 = 58000
        beat 9 = 2
        all = 2 0 -32000 -5611 54951 9308 191 8001 7551 -14393 -5653 101424 374 0 -3684520 157860 -346440 0
        """);
  }
}
