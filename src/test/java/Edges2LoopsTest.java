/** Part 2 of 'Terms': LOOPS at their LIMIT, just beyond it, and back from there. */
public final class Edges2LoopsTest {
  public static void main(String[] args) {
    gainsFromEndToEnd();
    withinTheLimit();
    beyondTheLimit();
    backFromBeyond();
    theLoopOfPace();
    theLoopOfQ();
    theLoopOfD();
    mostFromEndToEnd();
    Runs.end();
  }

  private static void gainsFromEndToEnd() {
    Runs.play("KP and KI (0 .. 4000; 200 and 20 at first): of `loop`", """
        loop 0 0 32000 512 1 0 = 2
        loop 0 0 32000 512 1 1 = 512
        loop 4000 0 32000 0 16 0 = 250
        loop 4000 0 32000 0 16 1 = 0
        loop 0 4000 32000 0 16 0 = 250
        loop 0 4000 32000 0 16 1 = 64000
        loop 4000 4000 32000 0 16 0 = 500
        loop -1 0 32000 0 1 0 = OUTSIDE
        loop 4001 0 32000 0 1 0 = OUTSIDE
        loop 0 -1 32000 0 1 0 = OUTSIDE
        loop 0 4001 32000 0 1 0 = OUTSIDE
        """);
    String run = """
        order 0 = 0
        beat 64 = 2
        rule 5 16 = 0
        """;
    Runs.play("KP and KI (0 .. 4000; 200 and 20 at first): in a BEAT, as at first", run + """
        beat 1 = 2
        told 16 = 320
        """);
    Runs.play("KP and KI (0 .. 4000; 200 and 20 at first): in a BEAT, 0", run + """
        gain 2 0 0 = 200
        gain 2 1 0 = 20
        beat 1 = 2
        told 16 = 0
        told 10 = 0
        """);
    Runs.play("KP and KI (0 .. 4000; 200 and 20 at first): in a BEAT, 4000", run + """
        gain 2 0 4000 = 200
        gain 2 1 4000 = 20
        gain 1 0 256 = 200
        gain 1 1 0 = 20
        beat 1 = 2
        told 16 = 64000
        told 10 = 500
        """);
  }

  private static void withinTheLimit() {
    String says = "if it is within LIMIT, SUM becomes SUM and KI e: ";
    Runs.play(says + "OUT at LIMIT, at its greatest fraction", """
        loop 0 256 10 0 10 0 = 10
        loop 0 256 10 0 10 1 = 2560
        loop 0 1 10 2814 1 0 = 10
        loop 0 1 10 2814 1 1 = 2815
        loop 100 1 10 2714 1 0 = 10
        loop 100 1 10 2714 1 1 = 2715
        """);
    Runs.play(says + "OUT at -LIMIT, at its least fraction", """
        loop 0 256 10 0 -10 0 = -10
        loop 0 256 10 0 -10 1 = -2560
        loop 0 1 10 -2559 -1 0 = -10
        loop 0 1 10 -2559 -1 1 = -2560
        loop 100 1 10 -2459 -1 0 = -10
        loop 100 1 10 -2459 -1 1 = -2460
        """);
    Runs.play(says + "a LIMIT of 0, where OUT is 0 from 0 to 255", """
        loop 0 1 0 254 1 0 = 0
        loop 0 1 0 254 1 1 = 255
        loop 0 1 0 1 -1 0 = 0
        loop 0 1 0 1 -1 1 = 0
        loop 0 1 0 0 0 1 = 0
        """);
    Runs.play(says + "the greatest LIMIT, 32000", """
        loop 0 256 32000 0 32000 0 = 32000
        loop 0 256 32000 0 32000 1 = 8192000
        loop 0 256 32000 0 -32000 0 = -32000
        loop 0 256 32000 0 -32000 1 = -8192000
        loop 0 256 32000 0 32001 1 = 0
        loop 0 256 32000 0 -32001 1 = 0
        loop 0 256 -1 0 0 0 = OUTSIDE
        loop 0 256 32001 0 0 0 = OUTSIDE
        """);
    Runs.play(says + "the greatest SUM and e that `loop` takes", """
        loop 0 1 32000 100000000 100000 1 = 100000000
        loop 0 4000 32000 -100000000 25000 0 = 0
        loop 0 4000 32000 -100000000 25000 1 = 0
        loop 0 1000 32000 100000000 -100000 0 = 0
        loop 0 1000 32000 100000000 -100000 1 = 0
        loop 0 1000 32000 -100000000 100000 1 = 0
        loop 4000 4000 32000 0 -100000 1 = 0
        """);
  }

  private static void beyondTheLimit() {
    String says = "else OUT is CLAMP(OUT, LIMIT): ";
    Runs.play(says + "just above, e above 0: SUM stays", """
        loop 0 1 10 2815 1 0 = 10
        loop 0 1 10 2815 1 1 = 2815
        loop 100 1 10 2715 1 0 = 10
        loop 100 1 10 2715 1 1 = 2715
        loop 0 256 10 0 11 0 = 10
        loop 0 256 10 0 11 1 = 0
        loop 0 1 0 255 1 0 = 0
        loop 0 1 0 255 1 1 = 255
        """);
    Runs.play(says + "just below, e below 0: SUM stays", """
        loop 0 1 10 -2560 -1 0 = -10
        loop 0 1 10 -2560 -1 1 = -2560
        loop 100 1 10 -2460 -1 0 = -10
        loop 100 1 10 -2460 -1 1 = -2460
        loop 0 256 10 0 -11 0 = -10
        loop 0 256 10 0 -11 1 = 0
        loop 0 1 0 0 -1 0 = 0
        loop 0 1 0 0 -1 1 = 0
        """);
    Runs.play(says + "e of 0", """
        loop 4000 4000 10 2815 0 0 = 10
        loop 4000 4000 10 2816 0 0 = 10
        loop 4000 4000 10 2816 0 1 = 2816
        loop 4000 4000 10 -2561 0 0 = -10
        loop 4000 4000 10 -2561 0 1 = -2561
        """);
  }

  private static void backFromBeyond() {
    Runs.play("only if e is below 0 and OUT above LIMIT", """
        loop 0 1 10 2817 -1 0 = 10
        loop 0 1 10 2817 -1 1 = 2816
        loop 0 1 10 100000 -5 0 = 10
        loop 0 1 10 100000 -5 1 = 99995
        loop 100 1 10 100000 -5 1 = 99995
        loop 0 1 0 257 -1 1 = 256
        # the step that comes back within it
        loop 0 1 10 2816 -1 0 = 10
        loop 0 1 10 2816 -1 1 = 2815
        # KP throws OUT below -LIMIT, and SUM stays
        loop 4000 1 10 2816 -5 0 = -10
        loop 4000 1 10 2816 -5 1 = 2816
        """);
    Runs.play("or e above 0 and OUT below -LIMIT", """
        loop 0 1 10 -2562 1 0 = -10
        loop 0 1 10 -2562 1 1 = -2561
        loop 0 1 10 -100000 5 0 = -10
        loop 0 1 10 -100000 5 1 = -99995
        loop 100 1 10 -100000 5 1 = -99995
        loop 0 1 0 -2 1 1 = -1
        loop 0 1 10 -2561 1 0 = -10
        loop 0 1 10 -2561 1 1 = -2560
        loop 4000 1 10 -2561 5 0 = 10
        loop 4000 1 10 -2561 5 1 = -2561
        """);
  }

  private static void theLoopOfPace() {
    // At a PACE of 0 OUT is WANTED itself, so that the bound can be met.
    String run = """
        order 0 = 0
        beat 64 = 2
        gain 2 0 0 = 200
        gain 2 1 256 = 20
        gain 1 0 256 = 200
        gain 1 1 0 = 20
        rule 1 100 = 4000
        """;
    String says = "LIMIT of the PACE's: MOST: ";
    Runs.play(says + "at it", run + """
        rule 5 100 = 0
        beat 1 = 2
        told 10 = 100
        told 16 = 25600
        """);
    Runs.play(says + "just above it", run + """
        rule 5 101 = 0
        beat 1 = 2
        told 10 = 100
        told 16 = 0
        """);
    Runs.play(says + "at it, below 0", run + """
        rule 5 -100 = 0
        beat 1 = 2
        told 10 = -100
        told 16 = -25600
        """);
    Runs.play(says + "just below it", run + """
        rule 5 -101 = 0
        beat 1 = 2
        told 10 = -100
        told 16 = 0
        """);
    Runs.play(says + "SUM comes back from above it, and does not go further", run + """
        rule 5 100 = 0
        beat 1 = 2
        told 4 = 0
        rule 1 10 = 100
        gain 2 1 1 = 256
        rule 5 5 = 100
        beat 1 = 2
        told 16 = 25600
        told 4 = 1
        rule 5 -4 = 5
        beat 1 = 2
        told 16 = 25595
        """);
    Runs.play(says + "SUM comes back from below it, and does not go further", run + """
        rule 5 -100 = 0
        beat 1 = 2
        told 4 = 0
        rule 1 10 = 100
        gain 2 1 1 = 256
        rule 5 -5 = -100
        beat 1 = 2
        told 16 = -25600
        told 4 = -1
        rule 5 4 = -5
        beat 1 = 2
        told 16 = -25595
        """);
  }

  private static void theLoopOfQ() {
    // Wanted Q is WANTED itself, Q is 0, and a BUS of 4085 has a LIMIT of 2358.
    String run = """
        order 0 = 0
        beat 64 = 2
        gain 2 0 256 = 200
        gain 2 1 0 = 20
        gain 1 0 0 = 200
        gain 1 1 256 = 20
        rule 0 4085 = 10000
        """;
    String says = "LIMIT of the currents' LOOPS: BUS 9459 >> 14: of Q, ";
    Runs.play(says + "at it", run + """
        rule 5 2358 = 0
        beat 1 = 2
        told 10 = 2358
        told 15 = 603648
        """);
    Runs.play(says + "just above it", run + """
        rule 5 2359 = 0
        beat 1 = 2
        told 10 = 2358
        told 15 = 0
        """);
    Runs.play(says + "at it, below 0", run + """
        rule 5 -2358 = 0
        beat 1 = 2
        told 10 = -2358
        told 15 = -603648
        """);
    Runs.play(says + "just below it", run + """
        rule 5 -2359 = 0
        beat 1 = 2
        told 10 = -2358
        told 15 = 0
        """);
    Runs.play(says + "SUM comes back from above it, and does not go further", run + """
        rule 5 2358 = 0
        beat 1 = 2
        rule 0 100 = 4085
        gain 1 1 1 = 256
        told 3 = 589
        beat 1 = 2
        told 10 = 57
        told 15 = 603648
        told 3 = 567
        rule 5 0 = 2358
        beat 1 = 2
        told 10 = 57
        told 15 = 603045
        """);
    Runs.play(says + "SUM comes back from below it, and does not go further", run + """
        rule 5 -2358 = 0
        beat 1 = 2
        rule 0 100 = 4085
        gain 1 1 1 = 256
        told 3 = -589
        beat 1 = 2
        told 10 = -57
        told 15 = -603648
        told 3 = -567
        rule 5 0 = -2358
        beat 1 = 2
        told 10 = -57
        told 15 = -603045
        """);
  }

  private static void theLoopOfD() {
    // Behind ALIGN a D current of 2358 is there, and none is wanted.
    String run = """
        order 0 = 0
        beat 64 = 2
        gain 0 0 0 = 200
        gain 0 1 256 = 20
        told 2 = 2358
        """;
    String says = "LIMIT of the currents' LOOPS: BUS 9459 >> 14: of D, ";
    Runs.play(says + "at it, below 0", run + """
        rule 0 4085 = 10000
        beat 1 = 2
        told 9 = -2358
        told 14 = -603648
        """);
    Runs.play(says + "just below it", run + """
        rule 0 4084 = 10000
        beat 1 = 2
        told 9 = -2357
        told 14 = 0
        """);
    Runs.play(says + "SUM comes back from below it, and does not go further", run + """
        rule 0 4085 = 10000
        beat 1 = 2
        rule 0 2000 = 4085
        gain 0 1 1 = 256
        told 2 = 1622
        beat 1 = 2
        told 9 = -1154
        told 14 = -603648
        beat 8 = 2
        told 2 = -1122
        told 14 = -601642
        beat 1 = 2
        told 14 = -600520
        """);
    // Without KI no SUM has grown, until a D current below 0 asks for volts above 0.
    String turned = """
        order 0 = 0
        gain 0 1 0 = 20
        beat 64 = 2
        rule 5 20000 = 0
        rule 4 0 = 40000
        beat 200 = 2
        told 2 = -968
        told 14 = 0
        rule 4 40000 = 0
        gain 0 0 0 = 200
        gain 0 1 256 = 0
        """;
    Runs.play(says + "at it", turned + """
        rule 0 1677 = 10000
        beat 1 = 2
        told 9 = 968
        told 14 = 247808
        """);
    Runs.play(says + "just above it", turned + """
        rule 0 1676 = 10000
        beat 1 = 2
        told 9 = 967
        told 14 = 0
        """);
    Runs.play(says + "SUM comes back from above it, and does not go further", turned + """
        rule 0 1677 = 10000
        beat 1 = 2
        rule 0 800 = 1677
        gain 0 1 1 = 256
        told 2 = -672
        beat 1 = 2
        told 9 = 461
        told 14 = 247808
        rule 4 0 = 40000
        beat 1 = 2
        told 9 = 461
        told 14 = 247073
        """);
  }

  private static void mostFromEndToEnd() {
    Runs.play("MOST (0 .. 20000; 4000 at first)", """
        order 0 = 0
        beat 64 = 2
        gain 1 0 256 = 200
        gain 1 1 0 = 20
        gain 2 0 4000 = 200
        gain 2 1 0 = 20
        rule 0 25000 = 10000
        rule 5 60000 = 0
        rule 1 -1 = OUTSIDE
        rule 1 20001 = OUTSIDE
        rule 1 0 = 4000
        beat 1 = 2
        told 10 = 0
        rule 1 4000 = 0
        told 3 = 0
        beat 1 = 2
        told 10 = 4000
        """);
    Runs.play("MOST at its greatest: the wanted Q current is 20000", """
        order 0 = 0
        beat 64 = 2
        gain 1 0 128 = 200
        gain 1 1 0 = 20
        gain 2 0 4000 = 200
        gain 2 1 0 = 20
        rule 0 25000 = 10000
        rule 5 -60000 = 0
        rule 1 20000 = 4000
        beat 1 = 2
        told 10 = -10000
        rule 1 19998 = 20000
        """);
  }
}
