import java.util.List;

/** Promises 10, 11, 13 and 14: no BEAT and the most of them, the first and last that is told, and wrapping. */
public final class EdgesToldTest {
  public static void main(String[] args) {
    for (int state = 0; state < 5; state++) {
      noBeat(state);
      theMostBeats(state);
      firstAndLast(state);
    }
    noBeatFindsNoFault();
    beatsInAlign();
    overInTheLatestBeat();
    asARefusalIs();
    digestWraps();
    allTheCallsThereMayBe();
    Runs.end();
  }

  private static void noBeat(int state) {
    TurnedFields x = Ways.to(state);
    List<Integer> ahead = Ways.toldAndRing(x);
    String name = "n BEATS (0 .. 400): beat(0) in STATE " + state;
    Runs.due(name, x.beat(0), state);
    Ways.same(name + " changes nothing", Ways.toldAndRing(x), ahead);
  }

  private static void theMostBeats(int state) {
    String name = "n BEATS (0 .. 400): beat(400) in STATE " + state;
    TurnedFields atOnce = Ways.to(state);
    TurnedFields oneByOne = Ways.to(state);
    int ahead = atOnce.told(12);
    int answer = atOnce.beat(400);
    int last = -1;
    for (int i = 0; i < 400; i++) last = oneByOne.beat(1);
    Runs.due(name, answer, last);
    Runs.due(name + ", then told(0)", atOnce.told(0), answer);
    Runs.due(name + ", then told(12)", atOnce.told(12), ahead + 400);
    Ways.same(name, Ways.toldAndRing(atOnce), Ways.toldAndRing(oneByOne));
    Runs.due(name + ", then beat(401)", atOnce.beat(401), -1000001);
    Runs.due(name + ", then beat(-1)", atOnce.beat(-1), -1000001);
    Runs.due(name + ", then told(12) again", atOnce.told(12), ahead + 400);
  }

  private static void firstAndLast(int state) {
    TurnedFields x = Ways.to(state);
    x.beat(state == 1 ? 9 : 0);
    String name = "told in STATE " + state + ", ";
    Runs.due(name + "its first", x.told(0), state);
    Runs.due(name + "its last", x.told(17), state == 1 ? 9 : 0);
    Runs.due(name + "-1", x.told(-1), -1000001);
    Runs.due(name + "18", x.told(18), -1000001);
    Runs.due(name + "the least", x.told(Integer.MIN_VALUE), -1000001);
    Runs.due(name + "the greatest", x.told(Integer.MAX_VALUE), -1000001);
  }

  private static void noBeatFindsNoFault() {
    Runs.play("n BEATS (0 .. 400): none finds no FAULT, and ends no STATE", """
        rule 0 25001 = 10000
        lose 1 = 0
        beat 0 = 0
        told 1 = 0
        told 12 = 0
        rule 0 10000 = 25001
        order 0 = 0
        beat 63 = 1
        beat 0 = 1
        told 17 = 63
        beat 1 = 2
        beat 0 = 2
        told 1 = 0
        beat 1 = 4
        beat 0 = 4
        """);
    Runs.play("n BEATS (0 .. 400): a FAULT in the last of them, and one BEAT too early for it", """
        order 0 = 0
        lose 1 = 0
        beat 64 = 2
        told 1 = 0
        beat 1 = 4
        told 12 = 65
        """);
    Runs.play("n BEATS (0 .. 400): a FAULT in the midst of them, which go on", """
        order 0 = 0
        lose 1 = 0
        beat 400 = 4
        told 1 = 3
        told 12 = 400
        ring 0 0 = 64
        """);
  }

  private static void beatsInAlign() {
    Runs.play("17 BEATS in ALIGN (0 in other STATES)", """
        told 17 = 0
        beat 1 = 0
        told 17 = 0
        order 0 = 0
        told 17 = 0
        beat 1 = 1
        told 17 = 1
        beat 62 = 1
        told 17 = 63
        beat 1 = 2
        told 17 = 0
        beat 1 = 2
        told 17 = 0
        order 1 = 2
        told 17 = 0
        beat 1 = 0
        told 17 = 0
        order 0 = 0
        beat 3 = 1
        told 17 = 3
        order 3 = 1
        told 17 = 0
        order 0 = 0
        told 17 = 0
        beat 3 = 1
        rule 0 25001 = 10000
        told 17 = 3
        beat 1 = 4
        told 17 = 0
        """);
  }

  private static void overInTheLatestBeat() {
    Runs.play("13 whether ON-TIMES were OVER in the latest BEAT", """
        told 13 = 0
        rule 0 100 = 10000
        order 0 = 0
        told 13 = 0
        beat 1 = 1
        told 13 = 1
        rule 0 10000 = 100
        told 13 = 1
        times 0 0 3 = 0
        beat 0 = 1
        told 13 = 1
        beat 1 = 1
        told 13 = 0
        times 32000 32000 3 = 1
        told 13 = 0
        rule 0 100 = 10000
        beat 1 = 1
        told 13 = 1
        order 3 = 1
        told 13 = 1
        beat 1 = 0
        told 13 = 0
        """);
    Runs.play("13 whether ON-TIMES were OVER in the latest BEAT: not if a FAULT cut them in it", """
        rule 0 100 = 10000
        order 0 = 0
        beat 1 = 1
        told 13 = 1
        rule 3 100 = 20000
        beat 1 = 4
        told 13 = 0
        """);
  }

  private static void asARefusalIs() {
    String says = "What is told may be as a refusal is: ";
    Runs.play(says + "SUM of a LOOP of its own", """
        loop 0 1 32000 -1000000 -1 1 = -1000001
        loop 0 1 32000 -1000000 -2 1 = -1000002
        loop 0 1 32000 -1000001 0 1 = -1000001
        loop 0 0 0 -1 0 1 = -1
        """);
    Runs.play(says + "OUT of -1", """
        loop 0 0 1 -1 0 0 = -1
        loop 0 1 1 0 -1 0 = -1
        """);
    // 1000001 is 101 times 9901.
    Runs.play(says + "SUM of the PACE's LOOP", Ways.RUN + """
        rule 5 -9901 = 0
        gain 2 0 0 = 200
        gain 2 1 101 = 20
        gain 1 0 0 = 200
        gain 1 1 0 = 20
        beat 1 = 2
        told 16 = -1000001
        told 4 = 0
        gain 2 1 1 = 101
        rule 5 -1 = -9901
        beat 1 = 2
        told 16 = -1000002
        """);
    Runs.play(says + "a number that was -1", """
        rule 2 -1 = 0
        rule 2 -1 = -1
        rule 5 -1 = 0
        rule 5 0 = -1
        turned -1 0 0 0 = -1
        back -1 0 0 0 = -1
        """);
  }

  private static void digestWraps() {
    Runs.play("d becomes 31 d and that (wrapping): past either end of the ints", """
        digest = -1616335801
        beat 1 = 0
        digest = -1587706650
        order 0 = 0
        digest = 1710188293
        beat 1 = 1
        digest = 1984734487
        beat 63 = 2
        digest = -1859335933
        rule 5 60000 = 0
        rule 1 20000 = 4000
        gain 2 0 4000 = 200
        beat 44 = 2
        digest = -75607925
        beat 1 = 4
        digest = 615355948
        """);
    TurnedFields x = Ways.to(3);
    for (int i = 0; i < 20; i++) {
      java.math.BigInteger d = java.math.BigInteger.valueOf(7);
      for (int what = 0; what <= 17; what++) {
        d = d.multiply(java.math.BigInteger.valueOf(31)).add(java.math.BigInteger.valueOf(x.told(what)));
      }
      Runs.due("digest() as told, at " + i, x.digest(), d.intValue());
      x.beat(1);
    }
  }

  private static void allTheCallsThereMayBe() {
    TurnedFields x = new TurnedFields();
    x.rule(2, -2000);
    for (int call = 2; call <= 510; call++) Runs.due("beat(400), call " + call, x.beat(400), 0);
    Runs.due("told(12) of the 511th call", x.told(12), 509 * 400);
    Runs.due("ring(0, 0) of the 512th call", x.ring(0, 0), -1);
  }
}
