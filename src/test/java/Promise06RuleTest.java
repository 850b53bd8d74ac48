/** Promise 6: the numbers that may be set, within their bounds. */
public final class Promise06RuleTest {
  private static final int[] LOW = {100, 0, -2000, 100, 0, -60000};
  private static final int[] HIGH = {30000, 20000, 2000, 32000, 60000, 60000};
  private static final int[] FIRST = {10000, 4000, 0, 20000, 40000, 0};

  public static void main(String[] args) {
    for (int what = 0; what < 6; what++) bounds(what);
    Runs.play("no such number", """
        rule -1 100 = OUTSIDE
        rule 6 100 = OUTSIDE
        rule LEAST 100 = OUTSIDE
        rule GREATEST 100 = OUTSIDE
        digest = -1616335801
        """);
    Runs.play("each number is its own", """
        rule 0 101 = 10000
        rule 1 102 = 4000
        rule 2 103 = 0
        rule 3 104 = 20000
        rule 4 105 = 40000
        rule 5 106 = 0
        rule 0 101 = 101
        rule 1 102 = 102
        rule 2 103 = 103
        rule 3 104 = 104
        rule 4 105 = 105
        rule 5 106 = 106
        """);
    Runs.play("LOAD and WANTED move the motor", """
        rule 2 -1600 = 0
        beat 3 = 0
        all = 0 0 0 -9 299 149 0 0 0 0 0 0 3 0 0 0 0 0
        rule 2 160 = -1600
        beat 2 = 0
        all = 0 0 0 -24 278 290 0 0 0 0 0 0 5 0 0 0 0 0
        order 0 = 0
        beat 64 = 2
        rule 5 -900 = 0
        beat 2 = 2
        all = 2 0 1184 -128 -312 65382 2900 4561 5292 -1646 -526 3375 71 0 -81100 -23920 -23960 0
        """);
    Runs.end();
  }

  private static void bounds(int what) {
    TurnedFields x = new TurnedFields();
    String call = "rule(" + what + ", ..)";
    Runs.due(call + " below", x.rule(what, LOW[what] - 1), -1000001);
    Runs.due(call + " above", x.rule(what, HIGH[what] + 1), -1000001);
    Runs.due(call + " far below", x.rule(what, Integer.MIN_VALUE), -1000001);
    Runs.due(call + " far above", x.rule(what, Integer.MAX_VALUE), -1000001);
    Runs.due(call + " first", x.rule(what, LOW[what]), FIRST[what]);
    Runs.due(call + " least", x.rule(what, HIGH[what]), LOW[what]);
    Runs.due(call + " greatest", x.rule(what, LOW[what] + 7), HIGH[what]);
    Runs.due(call + " refused", x.rule(what, HIGH[what] + 1), -1000001);
    Runs.due(call + " is as it was", x.rule(what, LOW[what]), LOW[what] + 7);
  }
}
