/** Promise 7: KP and KI of the three loops. */
public final class Promise07GainTest {
  public static void main(String[] args) {
    for (int k = 0; k < 3; k++) {
      for (int what = 0; what < 2; what++) bounds(k, what);
    }
    Runs.play("out of bounds", """
        gain -1 0 1 = OUTSIDE
        gain 3 0 1 = OUTSIDE
        gain 0 -1 1 = OUTSIDE
        gain 0 2 1 = OUTSIDE
        gain LEAST 0 1 = OUTSIDE
        gain 0 GREATEST 1 = OUTSIDE
        """);
    Runs.play("each gain is its own", """
        gain 0 0 1 = 200
        gain 0 1 2 = 20
        gain 1 0 3 = 200
        gain 1 1 4 = 20
        gain 2 0 5 = 200
        gain 2 1 6 = 20
        gain 0 0 1 = 1
        gain 0 1 2 = 2
        gain 1 0 3 = 3
        gain 1 1 4 = 4
        gain 2 0 5 = 5
        gain 2 1 6 = 6
        """);
    Runs.play("each loop runs by its own gains", """
        order 0 = 0
        beat 64 = 2
        rule 5 500 = 0
        gain 0 0 100 = 200
        gain 0 1 30 = 20
        gain 1 0 50 = 200
        gain 1 1 7 = 20
        gain 2 0 300 = 200
        gain 2 1 11 = 20
        beat 1 = 2
        all = 2 0 1912 33 0 0 3313 4879 4689 -1198 135 3383 65 0 -70740 4249 5500 0
        beat 1 = 2
        all = 2 0 1481 68 2 0 3277 4915 4705 -1248 149 3403 66 0 -128100 8414 11000 0
        """);
    Runs.end();
  }

  private static void bounds(int k, int what) {
    TurnedFields x = new TurnedFields();
    String call = "gain(" + k + ", " + what + ", ..)";
    Runs.due(call + " below", x.gain(k, what, -1), -1000001);
    Runs.due(call + " above", x.gain(k, what, 4001), -1000001);
    Runs.due(call + " far below", x.gain(k, what, Integer.MIN_VALUE), -1000001);
    Runs.due(call + " far above", x.gain(k, what, Integer.MAX_VALUE), -1000001);
    Runs.due(call + " first", x.gain(k, what, 0), what == 0 ? 200 : 20);
    Runs.due(call + " least", x.gain(k, what, 4000), 0);
    Runs.due(call + " greatest", x.gain(k, what, 77), 4000);
    Runs.due(call + " refused", x.gain(k, what, 4001), -1000001);
    Runs.due(call + " is as it was", x.gain(k, what, 0), 77);
  }
}
