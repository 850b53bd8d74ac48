/** Promise 9: orders from one STATE to another. */
public final class Promise09OrderTest {
  public static void main(String[] args) {
    Runs.play("from STATE to STATE", """
        order 0 = 0
        told 0 = 1
        order 3 = 1
        told 0 = 0
        order 0 = 0
        beat 64 = 2
        rule 5 3000 = 0
        beat 20 = 2
        order 1 = 2
        told 0 = 3
        beat 2 = 3
        order 3 = 3
        told 0 = 0
        order 0 = 0
        beat 64 = 2
        order 3 = 2
        told 0 = 0
        rule 0 25001 = 10000
        beat 1 = 4
        rule 0 10000 = 25001
        order 2 = 4
        told 0 = 0
        """);
    faultsThatKeepIt();
    Runs.play("order 3 leaves all but the STATE as it is", """
        order 0 = 0
        beat 64 = 2
        rule 5 3000 = 0
        beat 20 = 2
        all = 2 0 -222 3005 3290 7022 3689 4503 3816 -45 619 5711 84 0 -60140 252040 703500 0
        order 3 = 2
        all = 0 0 -222 3005 3290 7022 3689 4503 3816 -45 619 5711 84 0 -60140 252040 703500 0
        order 0 = 0
        all = 1 0 -222 3005 3290 7022 3689 4503 3816 -45 619 5711 84 0 -60140 252040 703500 0
        beat 1 = 1
        all = 1 0 -40 2716 3477 7891 4464 3729 3729 600 0 5801 85 0 -60140 252040 703500 1
        order 3 = 1
        told 17 = 0
        beat 1 = 0
        all = 0 0 -20 2439 3646 8802 0 0 0 0 0 5869 86 0 0 0 0 0
        """);
    Runs.end();
  }

  private static void faultsThatKeepIt() {
    Runs.play("VOLTS that are still there, though it stopped for CURRENT", """
        order 0 = 0
        beat 1 = 1
        rule 3 149 = 20000
        beat 1 = 4
        rule 3 20000 = 149
        rule 0 25001 = 10000
        order 2 = NOT
        told 1 = 1
        rule 0 25000 = 25001
        order 2 = 4
        told 1 = 0
        """);
    Runs.play("a lost line does not keep it, and stays lost", """
        order 0 = 0
        beat 64 = 2
        lose 1 = 0
        beat 1 = 4
        order 2 = 4
        lose 1 = 1
        """);
  }
}
