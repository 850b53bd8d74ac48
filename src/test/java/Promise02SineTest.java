import java.math.BigInteger;

/** Promise 2: SINE of an ANGLE. */
public final class Promise02SineTest {
  public static void main(String[] args) {
    Runs.play("ordinary angles and edges", """
        sine 0 = 0
        sine 1 = 3
        sine 2 = 6
        sine 100 = 319
        sine 4096 = 12568
        sine 8192 = 23129
        sine 12345 = 30315
        sine 16384 = 32767
        sine 20000 = 30795
        sine 32767 = 3
        sine 32768 = 0
        sine 32769 = -3
        sine 40000 = -20911
        sine 49152 = -32767
        sine 65535 = -3
        """);
    Runs.play("no angles", """
        sine -1 = OUTSIDE
        sine 65536 = OUTSIDE
        sine LEAST = OUTSIDE
        sine GREATEST = OUTSIDE
        """);
    everyAngle();
    Runs.end();
  }

  private static void everyAngle() {
    TurnedFields x = null;
    for (int angle = 0; angle < 65536; angle++) {
      // An object is promised 512 calls and no more.
      if (angle % 512 == 0) x = new TurnedFields();
      Runs.due("sine(" + angle + ")", x.sine(angle), exactly(angle));
    }
  }

  private static long exactly(int angle) {
    int rest = angle < 32768 ? angle : angle - 32768;
    BigInteger p = BigInteger.valueOf(rest).multiply(BigInteger.valueOf(32768 - rest));
    BigInteger below = BigInteger.valueOf(1342177280L).subtract(p);
    long size = BigInteger.valueOf(131068).multiply(p).divide(below).longValueExact();
    return angle < 32768 ? size : -size;
  }
}
