/** Promise 3: two wires' currents in the standing frame and in the turned one. */
public final class Promise03TurnedTest {
  public static void main(String[] args) {
    Runs.play("ordinary currents", """
        turned 1000 -500 0 0 = 1000
        turned 1000 -500 0 1 = 0
        turned 1000 -500 0 2 = 999
        turned 1000 -500 0 3 = 0
        turned 12345 -6789 10000 0 = 12345
        turned 12345 -6789 10000 1 = -712
        turned 12345 -6789 10000 2 = 6503
        turned 12345 -6789 10000 3 = -10496
        turned 500 7000 55000 0 = 500
        turned 500 7000 55000 1 = 8371
        turned 500 7000 55000 2 = -6813
        turned 500 7000 55000 3 = 4871
        """);
    Runs.play("numbers below 0 are rounded down", """
        turned -1 0 0 0 = -1
        turned -1 0 0 1 = -1
        turned -1 0 0 2 = -1
        turned -1 0 0 3 = -1
        turned 0 -1 1 1 = -2
        turned 0 -1 1 2 = -1
        turned 0 -1 1 3 = -2
        """);
    Runs.play("the greatest currents, where ints would run over", """
        turned 32000 32000 40000 0 = 32000
        turned 32000 32000 40000 1 = 55425
        turned 32000 32000 40000 2 = -59938
        turned 32000 32000 40000 3 = -22131
        turned -32000 -32000 8192 1 = -55426
        turned -32000 -32000 8192 2 = -61709
        turned -32000 -32000 8192 3 = -16536
        turned -32000 32000 65535 2 = -32000
        turned -32000 32000 65535 3 = 18470
        turned 32000 -32000 49152 2 = 18475
        turned 32000 -32000 49152 3 = 31999
        """);
    Runs.play("out of bounds", """
        turned 32001 0 0 0 = OUTSIDE
        turned -32001 0 0 0 = OUTSIDE
        turned 0 32001 0 0 = OUTSIDE
        turned 0 -32001 0 1 = OUTSIDE
        turned 0 0 -1 2 = OUTSIDE
        turned 0 0 65536 3 = OUTSIDE
        turned 0 0 0 -1 = OUTSIDE
        turned 0 0 0 4 = OUTSIDE
        turned LEAST 0 0 0 = OUTSIDE
        turned 0 GREATEST 0 0 = OUTSIDE
        turned 0 0 LEAST 0 = OUTSIDE
        turned 0 0 0 LEAST = OUTSIDE
        all = 0 0 0 0 0 0 0 0 0 0 0 0 0 0 0 0 0 0
        """);
    Runs.end();
  }
}
