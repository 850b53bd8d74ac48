/** Promise 4: D, Q turned back into the standing frame. */
public final class Promise04BackTest {
  public static void main(String[] args) {
    Runs.play("ordinary vectors", """
        back 1000 0 0 0 = 999
        back 1000 0 0 1 = 0
        back 0 1000 0 0 = 0
        back 0 1000 0 1 = 999
        back 1000 0 16384 0 = 0
        back 1000 0 16384 1 = 999
        back 12345 -6789 10000 0 = 12633
        back 12345 -6789 10000 1 = 6190
        back 500 7000 55000 0 = 6185
        back 500 7000 55000 1 = 3297
        """);
    Runs.play("numbers below 0 are rounded down", """
        back -1 0 0 0 = -1
        back -1 0 0 1 = 0
        back 0 -1 1 0 = 0
        back 0 -1 1 1 = -1
        back 0 1 1 0 = -1
        """);
    Runs.play("the greatest vectors", """
        back 32000 32000 40000 0 = -4147
        back 32000 32000 40000 1 = -44989
        back -32000 -32000 8192 0 = 0
        back -32000 -32000 8192 1 = -45174
        back -32000 32000 65535 0 = -31996
        back -32000 32000 65535 1 = 32000
        """);
    Runs.play("out of bounds", """
        back 32001 0 0 0 = OUTSIDE
        back -32001 0 0 0 = OUTSIDE
        back 0 32001 0 0 = OUTSIDE
        back 0 -32001 0 1 = OUTSIDE
        back 0 0 -1 0 = OUTSIDE
        back 0 0 65536 1 = OUTSIDE
        back 0 0 0 -1 = OUTSIDE
        back 0 0 0 2 = OUTSIDE
        back LEAST 0 0 0 = OUTSIDE
        back 0 LEAST 0 0 = OUTSIDE
        back 0 0 GREATEST 0 = OUTSIDE
        back 0 0 0 GREATEST = OUTSIDE
        all = 0 0 0 0 0 0 0 0 0 0 0 0 0 0 0 0 0 0
        """);
    Runs.end();
  }
}
