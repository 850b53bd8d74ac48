/** Promise 10: beats, with the loops, the motor, the STATES and the HEAT in them. */
public final class Promise10BeatTest {
  public static void main(String[] args) {
    howMany();
    aligning();
    running();
    braking();
    limits();
    Runs.end();
  }

  private static void howMany() {
    Runs.play("out of bounds, and none at all", """
        order 0 = 0
        beat 5 = 1
        digest = 1833308518
        beat -1 = OUTSIDE
        beat 401 = OUTSIDE
        beat LEAST = OUTSIDE
        beat GREATEST = OUTSIDE
        beat 0 = 1
        digest = 1833308518
        told 12 = 5
        beat 400 = 2
        told 12 = 405
        """);
    TurnedFields one = Runs.play("at once", "order 0 = 0\nrule 5 2500 = 0\nrule 2 30 = 0\nbeat 400 = 2\n");
    TurnedFields other = Runs.play("one by one", "order 0 = 0\nrule 5 2500 = 0\nrule 2 30 = 0\n");
    for (int i = 0; i < 400; i++) other.beat(1);
    for (int what = 0; what <= 17; what++) {
      Runs.due("told(" + what + ") behind 400 at once", one.told(what), other.told(what));
    }
  }

  private static void aligning() {
    Runs.play("64 beats of ALIGN", """
        beat 3 = 0
        order 0 = 0
        told 17 = 0
        beat 1 = 1
        all = 1 0 150 0 0 0 4464 3729 3729 600 0 0 4 0 0 0 0 1
        beat 1 = 1
        all = 1 0 290 0 0 0 4464 3729 3729 600 0 1 5 0 0 0 0 2
        beat 61 = 1
        all = 1 0 2355 0 0 0 4464 3729 3729 600 0 3269 66 0 0 0 0 63
        ring 0 0 = 3
        beat 1 = 2
        all = 2 0 2358 0 0 0 4464 3729 3729 600 0 3341 67 0 0 0 0 0
        ring 0 0 = 66
        ring 0 1 = 2
        """);
    Runs.play("the MOTOR turns in ALIGN, and its ANGLE is 0 behind it", """
        rule 2 -1000 = 0
        beat 30 = 0
        order 0 = 0
        beat 1 = 1
        all = 1 0 144 -464 1587 6948 4464 3729 3729 600 0 19 31 0 0 0 0 1
        beat 62 = 1
        all = 1 0 2290 -1105 1928 37349 4464 3729 3729 600 0 3895 93 0 0 0 0 63
        beat 1 = 2
        all = 2 0 2292 -1105 1922 0 4464 3729 3729 600 0 3978 94 0 0 0 0 0
        beat 1 = 2
        all = 2 0 1652 -1221 1916 479 2719 4804 5473 -1970 -471 4027 95 0 -45840 -10940 -38440 0
        """);
    Runs.play("ALIGN is counted anew", """
        order 0 = 0
        beat 40 = 1
        told 17 = 40
        order 3 = 1
        told 17 = 0
        order 0 = 0
        told 17 = 0
        beat 63 = 1
        told 17 = 63
        beat 1 = 2
        told 17 = 0
        """);
  }

  private static void running() {
    Runs.play("RUN, beat by beat", """
        order 0 = 0
        beat 64 = 2
        rule 5 3000 = 0
        beat 1 = 2
        all = 2 0 1704 553 0 0 2067 6126 2987 -2027 2215 3376 65 0 -47160 51560 60000 0
        beat 1 = 2
        all = 2 0 1186 1054 34 8 2325 5868 2832 -1649 2142 3401 66 0 -81240 96740 120000 0
        beat 1 = 2
        all = 2 0 778 1503 99 32 2542 5650 2725 -1337 2064 3431 67 0 -104960 136000 179320 0
        beat 200 = 2
        all = 2 0 0 35 3054 21661 3838 4130 4354 -4 364 3753 267 0 -660 96880 16460 0
        """);
    Runs.play("RUN the other way, and beyond the CORNER", """
        order 0 = 0
        beat 64 = 2
        rule 5 -3000 = 0
        beat 30 = 2
        all = 2 0 -89 -1112 -4664 48140 4037 4155 4094 -46 -71 6145 94 0 -30620 -136380 -502380 0
        rule 4 500 = 40000
        beat 1 = 2
        all = 2 0 -140 -907 -4733 46956 4084 4286 3906 -268 -36 6133 95 0 -34060 -124800 -469100 0
        beat 9 = 2
        all = 2 0 -341 690 -4815 36031 4209 3984 4096 -94 128 5962 104 0 -36460 -40020 -137080 0
        """);
    Runs.play("OVER in a beat", """
        order 0 = 0
        beat 64 = 2
        rule 5 60000 = 0
        rule 1 20000 = 4000
        gain 2 0 4000 = 200
        beat 40 = 2
        all = 2 0 938 12266 29434 62822 8016 7938 175 -2669 5773 94653 104 0 -487020 456420 0 0
        beat 1 = 2
        all = 2 0 891 11971 30200 4836 2717 8192 0 -2709 5773 96482 105 1 -505780 456420 0 0
        beat 4 = 4
        all = 4 4 1365 9318 33078 36857 0 0 0 0 0 102239 109 0 0 0 0 0
        """);
  }

  private static void braking() {
    Runs.play("BRAKE until the pace is low", """
        order 0 = 0
        beat 64 = 2
        rule 5 3000 = 0
        beat 203 = 2
        order 1 = 2
        beat 1 = 3
        all = 3 0 0 -525 3056 22425 5409 4054 2784 -3 -1853 3743 268 0 -660 44960 -44620 0
        beat 17 = 3
        all = 3 0 -3 -3304 151 29970 4192 4385 3807 34 -416 5791 285 0 7120 -177600 -706880 0
        beat 1 = 0
        all = 0 0 3 -3187 -55 29956 4170 4332 3859 30 -340 5923 286 0 7180 -169360 -709900 0
        ring 0 0 = 285
        ring 0 1 = 0
        ring 1 0 = 267
        beat 1 = 0
        all = 0 0 3 -2986 -254 29892 0 0 0 0 0 6036 287 0 0 0 0 0
        beat 1 = 0
        all = 0 0 4 -2791 -440 29782 0 0 0 0 0 6131 288 0 0 0 0 0
        """);
    Runs.play("BRAKE at no pace is over behind one beat", """
        order 0 = 0
        beat 64 = 2
        order 1 = 2
        beat 1 = 0
        all = 0 0 1704 0 0 0 2850 5340 5341 -2027 0 3372 65 0 -47160 0 0 0
        """);
  }

  private static void limits() {
    Runs.play("MOST bounds the wanted Q current", """
        order 0 = 0
        beat 64 = 2
        rule 1 0 = 4000
        rule 5 3000 = 0
        beat 1 = 2
        all = 2 0 1704 0 0 0 2850 5340 5341 -2027 0 3372 65 0 -47160 0 0 0
        rule 1 100 = 0
        beat 1 = 2
        all = 2 0 1186 21 0 0 3054 5138 5020 -1649 85 3380 66 0 -81240 2000 0 0
        beat 100 = 2
        all = 2 0 0 91 506 6347 4044 4149 4051 2 84 2348 166 0 580 19940 0 0
        """);
    Runs.play("BUS bounds the volts", """
        rule 0 100 = 10000
        order 0 = 0
        beat 1 = 1
        all = 1 0 150 0 0 0 8192 0 0 600 0 0 1 1 0 0 0 1
        beat 63 = 2
        rule 5 3000 = 0
        beat 1 = 2
        all = 2 0 2197 14 0 0 0 8192 1803 -57 57 3401 65 1 0 0 60000 0
        beat 30 = 2
        all = 2 0 129 150 204 625 0 8192 2294 -57 57 3434 95 1 0 0 419620 0
        rule 0 25000 = 100
        beat 1 = 2
        all = 2 0 94 961 213 678 3943 5030 3162 -111 3308 3435 96 0 -2580 77000 419620 0
        """);
    Runs.play("the volts at their bounds, up and down", """
        order 0 = 0
        beat 64 = 2
        rule 0 25000 = 10000
        rule 5 3000 = 0
        gain 0 0 4000 = 200
        gain 1 0 4000 = 200
        beat 1 = 2
        told 9 = -14433
        told 10 = 14433
        """);
    Runs.play("SUMS do not wind up, and come back from beyond", """
        order 0 = 0
        beat 64 = 2
        rule 5 20000 = 0
        gain 2 1 1000 = 20
        beat 50 = 2
        all = 2 0 70 3637 10909 13 4485 5682 2509 -273 2244 11963 114 0 -55840 502200 0 0
        rule 1 200 = 4000
        rule 5 -20000 = 20000
        gain 2 1 3 = 1000
        gain 2 0 0 = 200
        beat 1 = 2
        all = 2 0 71 2734 11136 2797 3755 3148 5044 -279 -1336 12031 115 0 -57240 425460 0 0
        beat 40 = 2
        all = 2 0 -2 -208 10920 49987 4990 3202 3580 24 1329 10452 155 0 5560 337960 0 0
        """);
  }
}
