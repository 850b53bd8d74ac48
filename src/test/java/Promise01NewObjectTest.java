/** Promise 1: at REST, all as at first; no BEAT was. */
public final class Promise01NewObjectTest {
  public static void main(String[] args) {
    Runs.due("NONE", TurnedFields.NONE, -1);
    Runs.due("OUTSIDE", TurnedFields.OUTSIDE, -1000001);
    Runs.due("NOT", TurnedFields.NOT, -1000002);
    Runs.play("all is 0 at first", """
        all = 0 0 0 0 0 0 0 0 0 0 0 0 0 0 0 0 0 0
        ring 0 0 = NONE
        ring 0 1 = NONE
        ring 0 2 = NONE
        """);
    Runs.play("the first numbers", """
        rule 0 100 = 10000
        rule 1 0 = 4000
        rule 2 1 = 0
        rule 3 100 = 20000
        rule 4 0 = 40000
        rule 5 1 = 0
        gain 0 0 0 = 200
        gain 0 1 0 = 20
        gain 1 0 0 = 200
        gain 1 1 0 = 20
        gain 2 0 0 = 200
        gain 2 1 0 = 20
        lose 0 = 0
        """);
    Runs.play("a first beat at REST changes the count alone", """
        beat 1 = 0
        all = 0 0 0 0 0 0 0 0 0 0 0 0 1 0 0 0 0 0
        ring 0 0 = NONE
        """);
    objectsAreApart();
    Runs.end();
  }

  private static void objectsAreApart() {
    TurnedFields one = new TurnedFields();
    one.order(0);
    one.rule(0, 25001);
    one.gain(0, 0, 1);
    one.lose(true);
    one.beat(3);
    TurnedFields other = new TurnedFields();
    for (int what = 0; what <= 17; what++) Runs.due("told(" + what + ") of another", other.told(what), 0);
    Runs.due("rule(0, 100) of another", other.rule(0, 100), 10000);
    Runs.due("gain(0, 0, 1) of another", other.gain(0, 0, 1), 200);
    Runs.due("lose(false) of another", other.lose(false), 0);
    Runs.due("ring(0, 0) of another", other.ring(0, 0), -1);
  }
}
