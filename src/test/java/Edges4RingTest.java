/** Part 4 of 'Terms' and promise 12: THE RING when it is empty, full and overrun, and what it holds. */
public final class Edges4RingTest {
  public static void main(String[] args) {
    empty();
    for (int changes : new int[] {1, 2, 19, 20, 21, 22, 39, 40, 41, 60, 61, 100}) held(changes);
    numbersOfBeats();
    betweenTwoBeats();
    faultOrNone();
    noChangeNoRow();
    Runs.end();
  }

  private static void empty() {
    Runs.play("NONE: there is none, of an empty ring", """
        ring 0 0 = NONE
        ring 0 1 = NONE
        ring 0 2 = NONE
        ring 1 0 = NONE
        ring 19 0 = NONE
        ring 20 0 = NONE
        ring -1 0 = NONE
        ring LEAST 0 = NONE
        ring GREATEST 0 = NONE
        """);
    Runs.play("OUTSIDE: what, ahead of NONE", """
        ring 0 -1 = OUTSIDE
        ring 0 3 = OUTSIDE
        ring 0 LEAST = OUTSIDE
        ring 0 GREATEST = OUTSIDE
        ring -1 -1 = OUTSIDE
        ring 20 3 = OUTSIDE
        ring LEAST LEAST = OUTSIDE
        ring GREATEST GREATEST = OUTSIDE
        order 0 = 0
        ring 0 -1 = OUTSIDE
        ring 0 3 = OUTSIDE
        ring 1 3 = OUTSIDE
        ring 0 2 = 0
        """);
  }

  /** Changes to ALIGN and back to REST, the k-th of them ahead of the BEAT 2 k. */
  private static void held(int changes) {
    TurnedFields x = new TurnedFields();
    for (int k = 0; k < changes; k++) {
      x.order(k % 2 == 0 ? 0 : 3);
      x.beat(2);
    }
    String name = "each change of STATE, the latest 20: of " + changes + " ring(";
    int held = Math.min(changes, 20);
    for (int i = 0; i < held; i++) {
      int then = changes - 1 - i;
      Runs.due(name + i + ", 0)", x.ring(i, 0), 2 * then);
      Runs.due(name + i + ", 1)", x.ring(i, 1), then % 2 == 0 ? 1 : 0);
      Runs.due(name + i + ", 2)", x.ring(i, 2), 0);
    }
    for (int i : new int[] {held, held + 1, 20, 21, 40, 59, 60, -1, -20, Integer.MIN_VALUE, Integer.MAX_VALUE}) {
      for (int what = 0; what < 3; what++) Runs.due(name + i + ", " + what + ")", x.ring(i, what), -1);
    }
    Runs.due(name + "0, 3)", x.ring(0, 3), -1000001);
    Runs.due(name + "0, -1)", x.ring(0, -1), -1000001);
    Runs.due(name + held + ", 3)", x.ring(held, 3), -1000001);
  }

  private static void numbersOfBeats() {
    String says = "the number of the BEAT (0 the first): ";
    Runs.play(says + "a FAULT in the first", """
        rule 0 25001 = 10000
        beat 5 = 4
        ring 0 0 = 0
        ring 0 1 = 4
        ring 0 2 = 2
        """);
    Runs.play(says + "a FAULT in the second", """
        beat 1 = 0
        rule 0 25001 = 10000
        beat 5 = 4
        ring 0 0 = 1
        """);
    Runs.play(says + "the end of ALIGN in the 64th, the end of BRAKE in the 66th", """
        order 0 = 0
        beat 65 = 2
        ring 0 0 = 63
        order 1 = 2
        beat 1 = 0
        ring 0 0 = 65
        ring 0 1 = 0
        ring 1 0 = 65
        ring 1 1 = 3
        """);
  }

  private static void betweenTwoBeats() {
    String says = "or, between two, that of the next one: ";
    Runs.play(says + "ahead of the first, and behind others", """
        order 0 = 0
        ring 0 0 = 0
        beat 7 = 1
        ring 0 0 = 0
        order 3 = 1
        ring 0 0 = 7
        order 0 = 0
        ring 0 0 = 7
        ring 1 0 = 7
        ring 2 0 = 0
        beat 0 = 1
        order 3 = 1
        ring 0 0 = 7
        beat 1 = 0
        order 0 = 0
        ring 0 0 = 8
        """);
    Runs.play(says + "an order and a FAULT in the BEAT behind it bear the same number", """
        beat 3 = 0
        order 0 = 0
        rule 0 25001 = 10000
        beat 1 = 4
        ring 0 0 = 3
        ring 0 1 = 4
        ring 1 0 = 3
        ring 1 1 = 1
        rule 0 25000 = 25001
        order 2 = 4
        ring 0 0 = 4
        ring 0 1 = 0
        """);
  }

  private static void faultOrNone() {
    Runs.play("the FAULT, if it is STOPPED, else 0", """
        order 0 = 0
        beat 64 = 2
        lose 1 = 0
        beat 1 = 4
        ring 0 1 = 4
        ring 0 2 = 3
        order 2 = 4
        ring 0 1 = 0
        ring 0 2 = 0
        ring 1 2 = 3
        order 0 = 0
        rule 0 25001 = 10000
        beat 1 = 4
        ring 0 2 = 2
        ring 1 2 = 0
        ring 2 2 = 0
        ring 3 2 = 3
        ring 4 2 = 0
        ring 5 2 = 0
        ring 6 2 = NONE
        """);
  }

  private static void noChangeNoRow() {
    Runs.play("each change of STATE, and nothing else", """
        beat 400 = 0
        order 1 = NOT
        order 4 = OUTSIDE
        lose 1 = 0
        rule 3 100 = 20000
        ring 0 0 = NONE
        rule 0 25001 = 10000
        beat 400 = 4
        beat 400 = 4
        order 2 = NOT
        ring 0 0 = 400
        ring 1 0 = NONE
        """);
  }
}
