/** Promise 13: a step of a LOOP of its own. */
public final class Promise13LoopTest {
  public static void main(String[] args) {
    Runs.play("within the limit", """
        loop 200 20 1000 0 100 0 = 85
        loop 200 20 1000 0 100 1 = 2000
        loop 200 20 1000 0 -1 0 = -1
        loop 200 20 1000 0 -1 1 = -20
        loop 0 256 10 0 10 0 = 10
        loop 0 256 10 0 10 1 = 2560
        loop 0 256 10 0 -10 0 = -10
        loop 0 256 10 0 -10 1 = -2560
        loop 0 1 10 2814 1 0 = 10
        loop 0 1 10 2814 1 1 = 2815
        loop 0 0 0 0 0 0 = 0
        """);
    Runs.play("beyond it the SUM does not wind up", """
        loop 0 256 10 0 11 0 = 10
        loop 0 256 10 0 11 1 = 0
        loop 0 256 10 0 -11 0 = -10
        loop 0 256 10 0 -11 1 = 0
        loop 0 1 10 2815 1 0 = 10
        loop 0 1 10 2815 1 1 = 2815
        loop 0 1 10 -2560 -1 0 = -10
        loop 0 1 10 -2560 -1 1 = -2560
        """);
    Runs.play("beyond it the SUM may come back", """
        loop 0 1 10 100000 -5 0 = 10
        loop 0 1 10 100000 -5 1 = 99995
        loop 0 1 10 -100000 5 0 = -10
        loop 0 1 10 -100000 5 1 = -99995
        loop 0 1 10 2817 -1 0 = 10
        loop 0 1 10 2817 -1 1 = 2816
        loop 0 1 10 -2562 1 0 = -10
        loop 0 1 10 -2562 1 1 = -2561
        loop 0 1 10 100000 5 1 = 100000
        loop 0 1 10 -100000 -5 1 = -100000
        loop 0 1 10 100000 0 1 = 100000
        """);
    Runs.play("thrown over to the other side it does not change", """
        loop 4000 1 10 0 -100 0 = -10
        loop 4000 1 10 0 -100 1 = 0
        loop 0 4000 100 100000000 -100000 0 = -100
        loop 0 4000 100 100000000 -100000 1 = 100000000
        """);
    Runs.play("the greatest numbers", """
        loop 4000 4000 32000 100000000 100000 0 = 32000
        loop 4000 4000 32000 100000000 100000 1 = 100000000
        loop 4000 4000 32000 -100000000 -100000 0 = -32000
        loop 4000 4000 32000 -100000000 -100000 1 = -100000000
        loop 0 10 32000 100000000 -100000 0 = 32000
        loop 0 10 32000 100000000 -100000 1 = 99000000
        loop 0 0 32000 -1 0 0 = -1
        """);
    Runs.play("what is told may be as a refusal is", """
        loop 0 1 32000 -1000000 -1 1 = -1000001
        loop 0 1 32000 -1000000 -2 1 = -1000002
        """);
    Runs.play("out of bounds", """
        loop -1 1 1 0 0 0 = OUTSIDE
        loop 4001 1 1 0 0 0 = OUTSIDE
        loop 1 -1 1 0 0 0 = OUTSIDE
        loop 1 4001 1 0 0 0 = OUTSIDE
        loop 1 1 -1 0 0 0 = OUTSIDE
        loop 1 1 32001 0 0 0 = OUTSIDE
        loop 1 1 1 100000001 0 0 = OUTSIDE
        loop 1 1 1 -100000001 0 0 = OUTSIDE
        loop 1 1 1 LEAST 0 0 = OUTSIDE
        loop 1 1 1 0 100001 0 = OUTSIDE
        loop 1 1 1 0 -100001 0 = OUTSIDE
        loop 1 1 1 0 LEAST 0 = OUTSIDE
        loop 1 1 1 0 0 -1 = OUTSIDE
        loop 1 1 1 0 0 2 = OUTSIDE
        """);
    Runs.play("it is a LOOP of its own: the MOTOR's are as they were", """
        order 0 = 0
        beat 64 = 2
        rule 5 3000 = 0
        beat 5 = 2
        digest = 1446032404
        loop 4000 4000 32000 5 5 0 = 156
        loop 1 2 3 4 5 1 = 14
        digest = 1446032404
        gain 0 0 200 = 200
        gain 2 1 20 = 20
        """);
    Runs.end();
  }
}
