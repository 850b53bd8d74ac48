/** The head of 'Terms': refusals and their order, divisions, and CLAMP. */
public final class EdgesHeadTest {
  private static final String REFUSED_IN_EVERY_STATE = """
      sine -1 = OUTSIDE
      sine 65536 = OUTSIDE
      turned 32001 0 0 0 = OUTSIDE
      turned 0 -32001 0 0 = OUTSIDE
      turned 0 0 65536 0 = OUTSIDE
      turned 0 0 0 4 = OUTSIDE
      back 32001 0 0 0 = OUTSIDE
      back 0 -32001 0 0 = OUTSIDE
      back 0 0 -1 0 = OUTSIDE
      back 0 0 0 2 = OUTSIDE
      times 32001 0 0 = OUTSIDE
      times 0 -32001 0 = OUTSIDE
      times 32000 32000 4 = OUTSIDE
      rule -1 100 = OUTSIDE
      rule 6 100 = OUTSIDE
      rule 0 99 = OUTSIDE
      rule 0 30001 = OUTSIDE
      rule 1 -1 = OUTSIDE
      rule 1 20001 = OUTSIDE
      rule 2 -2001 = OUTSIDE
      rule 2 2001 = OUTSIDE
      rule 3 99 = OUTSIDE
      rule 3 32001 = OUTSIDE
      rule 4 -1 = OUTSIDE
      rule 4 60001 = OUTSIDE
      rule 5 -60001 = OUTSIDE
      rule 5 60001 = OUTSIDE
      gain -1 0 1 = OUTSIDE
      gain 3 1 1 = OUTSIDE
      gain 0 -1 1 = OUTSIDE
      gain 1 2 1 = OUTSIDE
      gain 0 0 -1 = OUTSIDE
      gain 0 1 4001 = OUTSIDE
      gain 1 0 4001 = OUTSIDE
      gain 1 1 -1 = OUTSIDE
      gain 2 0 -1 = OUTSIDE
      gain 2 1 4001 = OUTSIDE
      order -1 = OUTSIDE
      order 4 = OUTSIDE
      beat -1 = OUTSIDE
      beat 401 = OUTSIDE
      told -1 = OUTSIDE
      told 18 = OUTSIDE
      ring 0 -1 = OUTSIDE
      ring 0 3 = OUTSIDE
      loop 4001 1 1 1 1 1 = OUTSIDE
      loop 1 4001 1 1 1 1 = OUTSIDE
      loop 1 1 32001 1 1 1 = OUTSIDE
      loop 1 1 1 100000001 1 1 = OUTSIDE
      loop 1 1 1 1 100001 1 = OUTSIDE
      loop 1 1 1 1 1 2 = OUTSIDE
      """;
  // By STATE: the orders that are NOT taken in it.
  private static final String[] NOT_TAKEN = {
    "order 1 = NOT\norder 2 = NOT\norder 3 = NOT\n",
    "order 0 = NOT\norder 1 = NOT\norder 2 = NOT\n",
    "order 0 = NOT\norder 2 = NOT\n",
    "order 0 = NOT\norder 1 = NOT\norder 2 = NOT\n",
    "order 0 = NOT\norder 1 = NOT\norder 3 = NOT\n"};
  // Other numbers than the first ones, so that one which is set back would be seen.
  private static final String OWN_NUMBERS = """
      rule 0 9001 = 10000
      rule 1 3001 = 4000
      rule 2 -77 = 0
      rule 3 18001 = 20000
      rule 4 1234 = 40000
      gain 0 0 211 = 200
      gain 0 1 21 = 20
      gain 1 0 222 = 200
      gain 1 1 22 = 20
      gain 2 0 233 = 200
      gain 2 1 23 = 20
      """;

  public static void main(String[] args) {
    refusalsInTheirOrder();
    for (int state = 0; state < 5; state++) whatIsRefusedChangesNothing(state);
    refusedBehindAFault();
    cutsTowardsZero();
    roundedDown();
    productsInLongs();
    clamp();
    Runs.end();
  }

  private static void refusalsInTheirOrder() {
    String says = "REFUSALS, of several the first in this order: OUTSIDE .., NOT ..";
    String both = "order -1 = OUTSIDE\norder 4 = OUTSIDE\norder LEAST = OUTSIDE\norder GREATEST = OUTSIDE\n";
    for (int state = 0; state < 5; state++) {
      Runs.play(says + ": no order and another STATE, " + state, Ways.TO[state] + both);
    }
    Runs.play(says + ": no order and a FAULT that is there now", """
        rule 0 25001 = 10000
        beat 1 = 4
        order 2 = NOT
        order 4 = OUTSIDE
        order -1 = OUTSIDE
        order 2 = NOT
        """);
  }

  /** Two objects are led the same way, and one of them is asked for what it must refuse. */
  private static void whatIsRefusedChangesNothing(int state) {
    String name = "What is refused changes nothing: in STATE " + state;
    // STOPPED is reached by a BUS of its own, and the numbers are set behind that.
    String way = state == 4 ? Ways.STOPPED + OWN_NUMBERS : OWN_NUMBERS + Ways.TO[state];
    String line = state == 0 || state == 4 ? "lose 1 = 0\n" : "";
    TurnedFields plain = Runs.play(name, way + line);
    TurnedFields asked = Runs.play(name, way + line + REFUSED_IN_EVERY_STATE + NOT_TAKEN[state]);
    Ways.same(name, Ways.toldAndRing(asked), Ways.toldAndRing(plain));
    Runs.due(name + ", then beat(3)", asked.beat(3), plain.beat(3));
    Ways.same(name + ", behind 3 BEATS", Ways.toldAndRing(asked), Ways.toldAndRing(plain));
    Ways.same(name + ", its numbers", Ways.numbersThatWere(asked), Ways.numbersThatWere(plain));
  }

  private static void refusedBehindAFault() {
    Runs.play("What is refused changes nothing: order 2 with a FAULT that is there now", """
        order 0 = 0
        beat 3 = 1
        rule 3 100 = 20000
        beat 1 = 4
        all = 4 1 396 0 0 0 0 0 0 0 0 5 4 0 0 0 0 0
        order 2 = NOT
        all = 4 1 396 0 0 0 0 0 0 0 0 5 4 0 0 0 0 0
        ring 0 0 = 3
        ring 0 1 = 4
        ring 0 2 = 1
        ring 1 0 = 0
        ring 2 0 = NONE
        beat 1 = 4
        all = 4 1 372 0 0 0 0 0 0 0 0 7 5 0 0 0 0 0
        """);
  }

  private static void cutsTowardsZero() {
    String says = "/ cuts towards 0: ";
    Runs.play(says + "of m and of each ON-TIME", """
        rule 0 16000 = 10000
        times 0 5001 0 = 4096
        times 0 5001 1 = 6313
        times 0 5001 2 = 1879
        rule 0 8192 = 16000
        times -4530 1615 0 = 0
        times -4530 1615 1 = 8192
        times -4530 1615 2 = 5396
        times 4938 -907 0 = 8192
        times 4938 -907 1 = 0
        times 4938 -907 2 = 1572
        """);
    Runs.play(says + "the PACE's 16th of -1, -15, -16 and -17", """
        rule 2 1 = 0
        beat 1 = 0
        told 4 = 0
        rule 2 15 = 1
        beat 1 = 0
        told 4 = 0
        rule 2 16 = 15
        beat 1 = 0
        told 4 = -1
        rule 2 17 = 16
        beat 1 = 0
        told 4 = -2
        """);
    Runs.play(says + "the PACE's 16th of 15 and 16", """
        rule 2 -15 = 0
        beat 1 = 0
        told 4 = 0
        rule 2 -16 = -15
        beat 1 = 0
        told 4 = 1
        """);
    Runs.play(says + "the D current's 4th of -105", """
        order 0 = 0
        beat 3 = 1
        told 2 = 422
        order 3 = 1
        beat 1 = 0
        told 2 = 396
        """);
    Runs.play(says + "the Q current's 4th of -74", """
        order 0 = 0
        beat 64 = 2
        rule 5 -100 = 0
        beat 1 = 2
        told 10 = -74
        told 3 = -18
        """);
  }

  private static void roundedDown() {
    String says = ">> k is / 2^k rounded down: ";
    Runs.play(says + "frames", """
        turned -1 0 0 1 = -1
        turned 1 0 0 1 = 0
        turned -1 0 0 2 = -1
        turned 1 0 0 2 = 0
        turned -1 0 16384 3 = 0
        turned 1 0 16384 3 = -1
        back -1 0 0 0 = -1
        back 1 0 0 0 = 0
        back -1 0 16384 1 = -1
        back 1 0 16384 1 = 0
        """);
    Runs.play(says + "v of the ON-TIMES", """
        rule 0 8192 = 10000
        times 1 0 0 = 4097
        times 1 0 1 = 4095
        times 1 0 2 = 4096
        times -1 0 0 = 4095
        times -1 0 1 = 4096
        times -1 0 2 = 4097
        """);
    Runs.play(says + "OUT of a LOOP", """
        loop 1 0 10 0 -1 0 = -1
        loop 1 0 10 0 1 0 = 0
        loop 0 0 10 -256 0 0 = -1
        loop 0 0 10 -257 0 0 = -2
        loop 0 0 10 255 0 0 = 0
        """);
    Runs.play(says + "the ANGLE's step of a PACE of -1, and the Q current's of one of -25", """
        rule 2 16 = 0
        beat 1 = 0
        told 4 = -1
        told 5 = 65535
        rule 2 384 = 16
        beat 1 = 0
        told 4 = -25
        told 3 = 0
        rule 2 0 = 384
        beat 1 = 0
        told 3 = 1
        """);
    Runs.play(says + "PACE Q of the D current, below 0", """
        rule 2 400 = 0
        order 0 = 0
        beat 3 = 1
        told 2 = 421
        """);
    Runs.play(says + "PACE D of the Q current, below 0", """
        rule 2 384 = 0
        order 0 = 0
        beat 2 = 1
        told 3 = 1
        """);
    Runs.play(says + "D 64, below 0", """
        order 0 = 0
        beat 64 = 2
        rule 5 3000 = 0
        rule 4 0 = 40000
        beat 7 = 2
        told 2 = -119
        beat 1 = 2
        told 2 = -223
        """);
    Runs.play(says + "Q 64, below 0", """
        order 0 = 0
        beat 64 = 2
        rule 5 -100 = 0
        beat 2 = 2
        told 3 = -35
        beat 1 = 2
        told 3 = -49
        """);
    Runs.play(says + "beyond the CORNER by 1, a D current of -1 is wanted", """
        order 0 = 0
        beat 64 = 2
        rule 5 100 = 0
        rule 4 0 = 40000
        beat 2 = 2
        told 4 = 1
        told 14 = -81240
        told 2 = 1186
        beat 1 = 2
        told 14 = -104980
        """);
  }

  private static void productsInLongs() {
    String says = "products and sums in longs: ";
    Runs.play(says + "where ints would run over", """
        sine 16384 = 32767
        turned 32000 32000 0 1 = 55425
        turned 32000 32000 10922 2 = 63931
        turned 32000 32000 0 3 = 55423
        back 32000 32000 8192 1 = 45173
        back -32000 -32000 8192 1 = -45174
        times 32000 32000 1 = 8192
        loop 4000 4000 32000 100000000 -100000 0 = -32000
        loop 4000 4000 32000 100000000 100000 0 = 32000
        loop 4000 4000 32000 -100000000 100000 0 = 32000
        loop 4000 4000 32000 -100000000 -100000 0 = -32000
        """);
  }

  private static void clamp() {
    String says = "CLAMP(v, m): v, but not below -m nor above m: ";
    Runs.play(says + "at it and just beyond it", """
        loop 256 0 10 0 9 0 = 9
        loop 256 0 10 0 10 0 = 10
        loop 256 0 10 0 11 0 = 10
        loop 256 0 10 0 -9 0 = -9
        loop 256 0 10 0 -10 0 = -10
        loop 256 0 10 0 -11 0 = -10
        """);
    Runs.play(says + "an m of 0, and the greatest m", """
        loop 256 0 0 0 1 0 = 0
        loop 256 0 0 0 0 0 = 0
        loop 256 0 0 0 -1 0 = 0
        loop 256 0 32000 0 32000 0 = 32000
        loop 256 0 32000 0 32001 0 = 32000
        loop 256 0 32000 0 -32000 0 = -32000
        loop 256 0 32000 0 -32001 0 = -32000
        """);
  }
}
