/** Part 4 of 'Terms': the end of ALIGN, the CORNER in RUN, and the end of BRAKE. */
public final class Edges4StatesTest {
  public static void main(String[] args) {
    behindThe64thBeat();
    notBehindThe64thBeat();
    cornerFromEndToEnd();
    aboveTheCorner();
    notBelow4000();
    belowAPaceOf64();
    behindTheMotorsStep();
    Runs.end();
  }

  private static void behindThe64thBeat() {
    String says = "behind the 64th BEAT in it the STATE is RUN, the MOTOR's ANGLE 0: ";
    Runs.play(says + "63 are too few", """
        beat 5 = 0
        order 0 = 0
        beat 63 = 1
        told 17 = 63
        ring 0 1 = 1
        beat 1 = 2
        told 17 = 0
        told 9 = 600
        ring 0 0 = 68
        ring 0 1 = 2
        """);
    Runs.play(says + "all at once", """
        order 0 = 0
        beat 64 = 2
        all = 2 0 2358 0 0 0 4464 3729 3729 600 0 3341 64 0 0 0 0 0
        ring 0 0 = 63
        """);
    Runs.play(says + "the next BEAT is one of RUN", """
        order 0 = 0
        rule 5 100 = 0
        beat 65 = 2
        told 16 = 2000
        """);
    Runs.play(says + "the ANGLE of a MOTOR that turns, which the ON-TIMES of ALIGN pass by", """
        rule 2 -1000 = 0
        beat 30 = 0
        order 0 = 0
        beat 63 = 1
        told 5 = 37349
        told 6 = 4464
        told 7 = 3729
        told 8 = 3729
        beat 1 = 2
        told 5 = 0
        told 4 = 1922
        told 6 = 4464
        told 7 = 3729
        told 8 = 3729
        beat 1 = 2
        told 4 = 1916
        told 5 = 479
        """);
    Runs.play(says + "a second time", Ways.RUN + """
        order 3 = 2
        beat 10 = 0
        order 0 = 0
        beat 63 = 1
        told 17 = 63
        beat 1 = 2
        ring 0 0 = 137
        """);
  }

  private static void notBehindThe64thBeat() {
    String says = "behind the 64th BEAT in it: ";
    Runs.play(says + "a FAULT in the 64th is STOPPED, not RUN", """
        rule 2 -1000 = 0
        order 0 = 0
        beat 63 = 1
        rule 0 25001 = 10000
        beat 1 = 4
        told 1 = 2
        told 5 = 22191
        told 17 = 0
        ring 0 1 = 4
        ring 1 1 = 1
        ring 2 1 = NONE
        """);
    Runs.play(says + "those ahead of an order to REST do not count", """
        order 0 = 0
        beat 63 = 1
        order 3 = 1
        order 0 = 0
        beat 1 = 1
        told 17 = 1
        beat 62 = 1
        told 17 = 63
        beat 1 = 2
        """);
    Runs.play(says + "those ahead of a FAULT do not count", """
        order 0 = 0
        beat 63 = 1
        rule 0 25001 = 10000
        beat 1 = 4
        rule 0 10000 = 25001
        order 2 = 4
        order 0 = 0
        beat 63 = 1
        told 17 = 63
        beat 1 = 2
        """);
  }

  private static void cornerFromEndToEnd() {
    Runs.play("CORNER (0 .. 60000; 40000 at first)", """
        rule 4 -1 = OUTSIDE
        rule 4 60001 = OUTSIDE
        rule 4 0 = 40000
        rule 4 -1 = OUTSIDE
        rule 4 60000 = 0
        rule 4 60001 = OUTSIDE
        rule 4 40000 = 60000
        """);
    Runs.play("CORNER of 0: at no PACE no D current is wanted", """
        order 0 = 0
        gain 0 0 256 = 200
        gain 0 1 0 = 20
        rule 4 0 = 40000
        beat 64 = 2
        told 2 = 2358
        told 4 = 0
        beat 1 = 2
        told 9 = -2358
        """);
  }

  private static void aboveTheCorner() {
    // Volts D are the wanted D current less D, which is 46.
    String[] ways = {"3000", "-3000"};
    int[] paces = {4660, -4661};
    int[] above = {0, 1, 16, 17, 32, 33};
    int[] volts = {-46, -47, -47, -48, -48, -49};
    for (int way = 0; way < 2; way++) {
      for (int i = 0; i < above.length; i++) {
        int corner = Math.abs(paces[way]) - above[i];
        String name = "if the size of PACE is above CORNER: " + paces[way] + " above " + corner;
        Runs.play(name, "order 0 = 0\ngain 0 0 256 = 200\ngain 0 1 0 = 20\nbeat 64 = 2\nrule 5 "
            + ways[way] + " = 0\nbeat 30 = 2\ntold 2 = 46\ntold 4 = " + paces[way]
            + "\nrule 4 " + corner + " = 40000\nbeat 1 = 2\ntold 9 = " + volts[i] + "\n");
      }
    }
  }

  private static void notBelow4000() {
    // PACE and CORNER are bounded so that -3750 is the least there can be: it is told as it is.
    String says = "(CORNER less that size) >> 4, not below -4000: ";
    String fast = """
        order 0 = 0
        gain 0 0 256 = 200
        gain 0 1 0 = 20
        beat 64 = 2
        rule 0 25000 = 10000
        rule 3 32000 = 20000
        rule 4 60000 = 40000
        """;
    String forward = fast + "rule 2 -2000 = 0\nrule 5 60000 = 0\nbeat 179 = 2\ntold 4 = 60000\ntold 2 = 1055\n";
    String backward = fast + "rule 2 2000 = 0\nrule 5 -60000 = 0\nbeat 179 = 2\ntold 4 = -60000\ntold 2 = 1055\n";
    Runs.play(says + "the least, at a PACE of 60000", forward + "rule 4 0 = 60000\nbeat 1 = 2\ntold 9 = -4805\n");
    Runs.play(says + "the least, at a PACE of -60000", backward + "rule 4 0 = 60000\nbeat 1 = 2\ntold 9 = -4805\n");
    Runs.play(says + "59999 at 60000", forward + "rule 4 59999 = 60000\nbeat 1 = 2\ntold 9 = -1056\n");
    Runs.play(says + "59999 at -60000", backward + "rule 4 59999 = 60000\nbeat 1 = 2\ntold 9 = -1056\n");
    Runs.play(says + "60000 at 60000", forward + "beat 1 = 2\ntold 9 = -1055\n");
    Runs.play(says + "60000 at -60000", backward + "beat 1 = 2\ntold 9 = -1055\n");
  }

  private static void belowAPaceOf64() {
    String says = "if the size of PACE is below 64 .. the STATE is REST: ";
    Runs.play(says + "64 is not", """
        order 0 = 0
        beat 64 = 2
        rule 5 1185 = 0
        beat 50 = 2
        order 1 = 2
        beat 16 = 3
        told 4 = 64
        beat 1 = 0
        """);
    Runs.play(says + "-64 is not", """
        order 0 = 0
        beat 64 = 2
        rule 5 -2783 = 0
        beat 50 = 2
        order 1 = 2
        beat 18 = 3
        told 4 = -64
        """);
    Runs.play(says + "63 is", """
        order 0 = 0
        beat 64 = 2
        rule 5 -1607 = 0
        beat 50 = 2
        order 1 = 2
        beat 16 = 3
        beat 1 = 0
        told 4 = 63
        """);
    Runs.play(says + "-63 is", """
        order 0 = 0
        beat 64 = 2
        rule 5 -1145 = 0
        beat 50 = 2
        order 1 = 2
        beat 15 = 3
        beat 1 = 0
        told 4 = -63
        """);
    Runs.play(says + "in BRAKE alone, not in RUN", Ways.RUN + """
        beat 1 = 2
        told 4 = 0
        beat 399 = 2
        told 4 = 0
        """);
  }

  private static void behindTheMotorsStep() {
    String says = "below 64 behind the MOTOR's step: ";
    Runs.play(says + "34 ahead of it and 99 behind it is BRAKE", Ways.RUN + """
        rule 5 3000 = 0
        beat 2 = 2
        told 4 = 34
        order 1 = 2
        beat 1 = 3
        told 4 = 99
        ring 0 1 = 3
        """);
    Runs.play(says + "0 ahead of it and 34 behind it is REST", Ways.RUN + """
        rule 5 3000 = 0
        beat 1 = 2
        told 4 = 0
        order 1 = 2
        beat 1 = 0
        told 4 = 34
        ring 0 1 = 0
        """);
    Runs.play(says + "151 ahead of it and -55 behind it is REST, with the wires led in that BEAT", Ways.RUN + """
        rule 5 3000 = 0
        beat 203 = 2
        order 1 = 2
        beat 18 = 3
        told 4 = 151
        beat 1 = 0
        all = 0 0 3 -3187 -55 29956 4170 4332 3859 30 -340 5923 286 0 7180 -169360 -709900 0
        ring 0 0 = 285
        ring 0 1 = 0
        beat 1 = 0
        all = 0 0 3 -2986 -254 29892 0 0 0 0 0 6036 287 0 0 0 0 0
        """);
  }
}
