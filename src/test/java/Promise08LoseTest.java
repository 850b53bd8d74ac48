/** Promise 8: the ANGLE's line is lost, or not. */
public final class Promise08LoseTest {
  public static void main(String[] args) {
    Runs.play("it answers what was", """
        lose 0 = 0
        lose 1 = 0
        lose 1 = 1
        lose 0 = 1
        lose 0 = 0
        """);
    Runs.play("a lost line counts in RUN and BRAKE alone", """
        lose 1 = 0
        beat 1 = 0
        order 0 = 0
        beat 64 = 2
        told 1 = 0
        beat 1 = 4
        told 1 = 3
        """);
    Runs.play("in BRAKE", """
        order 0 = 0
        beat 64 = 2
        rule 5 3000 = 0
        beat 20 = 2
        order 1 = 2
        beat 1 = 3
        lose 1 = 0
        beat 1 = 4
        told 1 = 3
        """);
    Runs.play("lost and found again between two beats is no fault", """
        order 0 = 0
        beat 64 = 2
        lose 1 = 0
        lose 0 = 1
        beat 1 = 2
        told 1 = 0
        """);
    Runs.end();
  }
}
