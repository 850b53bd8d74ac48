/** Promise 14: the digest of all that is told. */
public final class Promise14DigestTest {
  public static void main(String[] args) {
    Runs.play("by number", """
        digest = -1616335801
        digest = -1616335801
        order 0 = 0
        digest = 1681559142
        beat 1 = 1
        digest = 1956105336
        beat 1 = 1
        digest = 116930125
        beat 62 = 2
        digest = -1887965084
        rule 5 3000 = 0
        digest = -1887965084
        beat 203 = 2
        digest = 544121343
        """);
    asTold();
    Runs.end();
  }

  private static void asTold() {
    TurnedFields x = new TurnedFields();
    x.rule(5, -7000);
    x.order(0);
    for (int i = 0; i < 25; i++) {
      x.beat(i % 7);
      long d = 7;
      for (int what = 0; what <= 17; what++) d = (31 * d + x.told(what)) % (1L << 32);
      Runs.due("digest() at " + i, x.digest(), (int) d);
    }
  }
}
