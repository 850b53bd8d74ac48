/** Promise 12: the latest 20 changes of STATE. */
public final class Promise12RingTest {
  public static void main(String[] args) {
    Runs.play("the latest first", """
        ring 0 0 = NONE
        beat 2 = 0
        order 0 = 0
        beat 64 = 2
        rule 5 500 = 0
        beat 10 = 2
        order 1 = 2
        rule 0 25001 = 10000
        beat 1 = 4
        rule 0 10000 = 25001
        order 2 = 4
        ring 0 0 = 77
        ring 0 1 = 0
        ring 0 2 = 0
        ring 1 0 = 76
        ring 1 1 = 4
        ring 1 2 = 2
        ring 2 0 = 76
        ring 2 1 = 3
        ring 2 2 = 0
        ring 3 0 = 65
        ring 3 1 = 2
        ring 3 2 = 0
        ring 4 0 = 2
        ring 4 1 = 1
        ring 4 2 = 0
        ring 5 0 = NONE
        ring 5 1 = NONE
        ring 5 2 = NONE
        """);
    Runs.play("out of bounds", """
        order 0 = 0
        ring 0 -1 = OUTSIDE
        ring 0 3 = OUTSIDE
        ring -1 3 = OUTSIDE
        ring 5 -1 = OUTSIDE
        ring 0 LEAST = OUTSIDE
        ring 0 GREATEST = OUTSIDE
        ring -1 0 = NONE
        ring 1 0 = NONE
        ring LEAST 0 = NONE
        ring GREATEST 2 = NONE
        """);
    Runs.end();
  }
}
