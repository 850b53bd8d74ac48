/** Promise 11: what is told, by number. */
public final class Promise11ToldTest {
  public static void main(String[] args) {
    Runs.play("each number in RUN", """
        rule 2 -1000 = 0
        order 0 = 0
        beat 64 = 2
        rule 5 9000 = 0
        beat 7 = 2
        told 0 = 2
        told 1 = 0
        told 2 = -75
        told 3 = 3296
        told 4 = 2995
        told 5 = 4177
        told 6 = 2656
        told 7 = 5537
        told 8 = 2832
        told 9 = -559
        told 10 = 2209
        told 11 = 4131
        told 12 = 71
        told 13 = 0
        told 14 = -132620
        told 15 = 369480
        told 16 = 0
        told 17 = 0
        """);
    Runs.play("FAULT is there in STOPPED alone", """
        rule 0 25001 = 10000
        beat 1 = 4
        told 0 = 4
        told 1 = 2
        rule 0 10000 = 25001
        order 2 = 4
        told 0 = 0
        told 1 = 0
        """);
    Runs.play("BEATS in ALIGN are 0 behind a fault", """
        order 0 = 0
        beat 12 = 1
        told 17 = 12
        rule 0 25001 = 10000
        beat 1 = 4
        told 17 = 0
        """);
    Runs.play("OVER is that of the latest beat", """
        order 0 = 0
        beat 64 = 2
        rule 5 60000 = 0
        rule 1 20000 = 4000
        gain 2 0 4000 = 200
        beat 44 = 2
        told 13 = 1
        order 3 = 2
        told 13 = 1
        beat 1 = 4
        told 13 = 0
        """);
    Runs.play("out of bounds", """
        told -1 = OUTSIDE
        told 18 = OUTSIDE
        told LEAST = OUTSIDE
        told GREATEST = OUTSIDE
        """);
    Runs.end();
  }
}
