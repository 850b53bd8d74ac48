/**
 * A motor led by three pulsed wires, beat by beat, all in whole numbers.
 * The words used here are those of the document; numbers are held as longs,
 * because the document asks for products and sums in longs.
 */
public final class TurnedFields {
  public static final int NONE = -1, OUTSIDE = -1000001, NOT = -1000002;

  private static final int REST = 0, ALIGN = 1, RUN = 2, BRAKE = 3, STOPPED = 4;
  private static final int NO_FAULT = 0, CURRENT = 1, VOLTS = 2, LINE_LOST = 3, TOO_HOT = 4;

  private static final int BUS = 0, MOST = 1, LOAD = 2, TRIP = 3, CORNER = 4, WANTED = 5;
  private static final int RULES = 6;
  private static final int[] RULE_LOW = {100, 0, -2000, 100, 0, -60000};
  private static final int[] RULE_HIGH = {30000, 20000, 2000, 32000, 60000, 60000};
  private static final int[] RULE_FIRST = {10000, 4000, 0, 20000, 40000, 0};

  private static final int LAST_ANGLE = 65535;
  private static final int MOST_VECTOR = 32000;
  private static final int MOST_GAIN = 4000;
  private static final int MOST_LIMIT = 32000;
  private static final int MOST_SUM = 100000000;
  private static final int MOST_ERROR = 100000;
  private static final int MOST_BEATS = 400;
  private static final int LAST_TOLD = 17;

  private static final int ALIGN_BEATS = 64;
  private static final int ALIGN_VOLTS = 600;
  private static final int SLOW_PACE = 64;
  private static final int LEAST_WANTED_D = -4000;
  private static final int HIGHEST_BUS = 25000;
  private static final int HIGHEST_HEAT = 100000;

  private final int[] rules = new int[RULES];
  private final Loop loopD = new Loop();
  private final Loop loopQ = new Loop();
  private final Loop loopPace = new Loop();
  private final Motor motor = new Motor();
  private final OnTimes onTimes = new OnTimes();
  // times() asks of vectors that no beat drives, so it must not touch onTimes.
  private final OnTimes asked = new OnTimes();
  private final Changes changes = new Changes();
  private int state = REST;
  private int fault = NO_FAULT;
  private boolean lost = false;
  private long voltsD = 0;
  private long voltsQ = 0;
  private long heat = 0;
  private int beats = 0;
  private int alignBeats = 0;

  public TurnedFields() {
    System.arraycopy(RULE_FIRST, 0, rules, 0, RULES);
  }

  // ---- frames

  public int sine(int angle) {
    return isAngle(angle) ? (int) Frames.sineOf(angle) : OUTSIDE;
  }

  public int turned(int a, int b, int angle, int what) {
    if (!isVector(a, b) || !isAngle(angle)) return OUTSIDE;
    long beta = Frames.betaOfWires(a, b);
    switch (what) {
      case 0: return a;
      case 1: return (int) beta;
      case 2: return (int) Frames.dOf(a, beta, angle);
      case 3: return (int) Frames.qOf(a, beta, angle);
      default: return OUTSIDE;
    }
  }

  public int back(int d, int q, int angle, int what) {
    if (!isVector(d, q) || !isAngle(angle)) return OUTSIDE;
    switch (what) {
      case 0: return (int) Frames.alphaOf(d, q, angle);
      case 1: return (int) Frames.betaOf(d, q, angle);
      default: return OUTSIDE;
    }
  }

  public int times(int alpha, int beta, int what) {
    if (!isVector(alpha, beta)) return OUTSIDE;
    asked.lead(alpha, beta, rules[BUS]);
    switch (what) {
      case 0: return (int) asked.u;
      case 1: return (int) asked.v;
      case 2: return (int) asked.w;
      case 3: return asked.over ? 1 : 0;
      default: return OUTSIDE;
    }
  }

  // ---- numbers

  public int rule(int what, int v) {
    if (what < 0 || what >= RULES) return OUTSIDE;
    if (!within(v, RULE_LOW[what], RULE_HIGH[what])) return OUTSIDE;
    int was = rules[what];
    rules[what] = v;
    return was;
  }

  public int gain(int k, int what, int v) {
    if (!within(k, 0, 2) || !within(what, 0, 1) || !within(v, 0, MOST_GAIN)) return OUTSIDE;
    Loop chosen = k == 0 ? loopD : k == 1 ? loopQ : loopPace;
    long was = what == 0 ? chosen.kp : chosen.ki;
    if (what == 0) chosen.kp = v;
    else chosen.ki = v;
    return (int) was;
  }

  public int lose(boolean on) {
    int was = lost ? 1 : 0;
    lost = on;
    return was;
  }

  // ---- running

  public int order(int what) {
    if (!within(what, 0, 3)) return OUTSIDE;
    if (!mayOrder(what)) return NOT;
    int was = state;
    changeTo(what == 0 ? ALIGN : what == 1 ? BRAKE : REST, NO_FAULT);
    return was;
  }

  public int beat(int n) {
    if (!within(n, 0, MOST_BEATS)) return OUTSIDE;
    for (int i = 0; i < n; i++) passBeat();
    return state;
  }

  public int told(int what) {
    switch (what) {
      case 0: return state;
      case 1: return fault;
      case 2: return (int) motor.d;
      case 3: return (int) motor.q;
      case 4: return (int) motor.pace;
      case 5: return (int) motor.angle;
      case 6: return (int) onTimes.u;
      case 7: return (int) onTimes.v;
      case 8: return (int) onTimes.w;
      case 9: return (int) voltsD;
      case 10: return (int) voltsQ;
      case 11: return (int) heat;
      case 12: return beats;
      case 13: return onTimes.over ? 1 : 0;
      case 14: return (int) loopD.sum;
      case 15: return (int) loopQ.sum;
      case 16: return (int) loopPace.sum;
      case 17: return alignBeats;
      default: return OUTSIDE;
    }
  }

  public int ring(int i, int what) {
    return changes.latest(i, what);
  }

  public int loop(int kp, int ki, int limit, int sum, int e, int what) {
    if (!within(kp, 0, MOST_GAIN) || !within(ki, 0, MOST_GAIN)) return OUTSIDE;
    if (!within(limit, 0, MOST_LIMIT) || !within(sum, -MOST_SUM, MOST_SUM)) return OUTSIDE;
    if (!within(e, -MOST_ERROR, MOST_ERROR) || !within(what, 0, 1)) return OUTSIDE;
    long free = Loop.freeOut(kp, ki, sum, e);
    return (int) (what == 0 ? clamp(free, limit) : Loop.sumBehind(ki, limit, sum, e, free));
  }

  public int digest() {
    int d = 7;
    for (int what = 0; what <= LAST_TOLD; what++) d = 31 * d + told(what);
    return d;
  }

  // ---- one beat

  private void passBeat() {
    stopAtFault();
    chooseVolts();
    leadWires();
    motor.step(voltsD, voltsQ, rules[LOAD]);
    heat = heat + ((motor.d * motor.d + motor.q * motor.q) >> 16) - (heat >> 8);
    leaveState();
    beats++;
  }

  private void stopAtFault() {
    int now = faultNow();
    if (now != NO_FAULT && state != STOPPED) changeTo(STOPPED, now);
  }

  /** The least of the faults that are there now, or NO_FAULT. */
  private int faultNow() {
    if (Math.abs(motor.d) > rules[TRIP] || Math.abs(motor.q) > rules[TRIP]) return CURRENT;
    if (rules[BUS] > HIGHEST_BUS) return VOLTS;
    if (lost && (state == RUN || state == BRAKE)) return LINE_LOST;
    if (heat > HIGHEST_HEAT) return TOO_HOT;
    return NO_FAULT;
  }

  private void chooseVolts() {
    switch (state) {
      case ALIGN:
        alignBeats++;
        voltsD = ALIGN_VOLTS;
        voltsQ = 0;
        break;
      case RUN:
        followPace(rules[WANTED]);
        break;
      case BRAKE:
        followPace(0);
        break;
      default:
        cutWires();
    }
  }

  private void cutWires() {
    voltsD = 0;
    voltsQ = 0;
    loopD.sum = 0;
    loopQ.sum = 0;
    loopPace.sum = 0;
  }

  private void followPace(long wantedPace) {
    long limit = ((long) rules[BUS] * 9459) >> 14;
    long wantedQ = loopPace.step(rules[MOST], wantedPace - motor.pace);
    voltsD = loopD.step(limit, wantedD() - motor.d);
    voltsQ = loopQ.step(limit, wantedQ - motor.q);
  }

  private long wantedD() {
    long beyond = rules[CORNER] - Math.abs(motor.pace);
    return beyond < 0 ? Math.max(LEAST_WANTED_D, beyond >> 4) : 0;
  }

  private void leadWires() {
    if (state == REST || state == STOPPED) {
      onTimes.off();
      return;
    }
    long angle = state == ALIGN ? 0 : motor.angle;
    long alpha = Frames.alphaOf(voltsD, voltsQ, angle);
    long beta = Frames.betaOf(voltsD, voltsQ, angle);
    onTimes.lead(alpha, beta, rules[BUS]);
  }

  private void leaveState() {
    if (state == ALIGN && alignBeats >= ALIGN_BEATS) {
      changeTo(RUN, NO_FAULT);
      motor.angle = 0;
    } else if (state == BRAKE && Math.abs(motor.pace) < SLOW_PACE) {
      changeTo(REST, NO_FAULT);
    }
  }

  // ---- states

  private boolean mayOrder(int what) {
    switch (what) {
      case 0: return state == REST;
      case 1: return state == RUN;
      // LOST needs no care here: it is never found in STOPPED.
      case 2: return state == STOPPED && faultNow() == NO_FAULT;
      default: return state == ALIGN || state == RUN || state == BRAKE;
    }
  }

  /** Changes are noted with the number of this beat, or of the next one between two. */
  private void changeTo(int next, int why) {
    state = next;
    fault = why;
    alignBeats = 0;
    changes.note(beats, next, why);
  }

  // ---- bounds

  private static boolean within(int v, int low, int high) {
    return v >= low && v <= high;
  }

  private static boolean isAngle(int v) {
    return within(v, 0, LAST_ANGLE);
  }

  private static boolean isVector(int one, int other) {
    return within(one, -MOST_VECTOR, MOST_VECTOR) && within(other, -MOST_VECTOR, MOST_VECTOR);
  }

  private static long clamp(long v, long m) {
    return Math.max(-m, Math.min(m, v));
  }

  /** Divisors here are never 0 by their bounds; the test makes that plain at the division. */
  private static long quotient(long v, long divisor) {
    return divisor == 0 ? 0 : v / divisor;
  }

  private static final class Frames {
    static long sineOf(long angle) {
      long x = angle & 32767;
      long p = x * (32768 - x);
      long size = quotient(131068 * p, 1342177280 - p);
      return (angle & LAST_ANGLE) < 32768 ? size : -size;
    }

    static long cosineOf(long angle) {
      return sineOf(angle + 16384);
    }

    static long betaOfWires(long a, long b) {
      return ((a + 2 * b) * 37837) >> 16;
    }

    static long dOf(long alpha, long beta, long angle) {
      return (alpha * cosineOf(angle) + beta * sineOf(angle)) >> 15;
    }

    static long qOf(long alpha, long beta, long angle) {
      return (beta * cosineOf(angle) - alpha * sineOf(angle)) >> 15;
    }

    static long alphaOf(long d, long q, long angle) {
      return (d * cosineOf(angle) - q * sineOf(angle)) >> 15;
    }

    static long betaOf(long d, long q, long angle) {
      return (d * sineOf(angle) + q * cosineOf(angle)) >> 15;
    }
  }

  private static final class OnTimes {
    private static final int WHOLE = 8192, HALF = 4096;

    long u = 0;
    long v = 0;
    long w = 0;
    boolean over = false;

    void off() {
      u = 0;
      v = 0;
      w = 0;
      over = false;
    }

    void lead(long alpha, long beta, long bus) {
      long second = (beta * 56756 - alpha * 32768) >> 16;
      long third = -alpha - second;
      long greatest = Math.max(alpha, Math.max(second, third));
      long least = Math.min(alpha, Math.min(second, third));
      long middle = (greatest + least) / 2;
      over = false;
      u = onTime(alpha - middle, bus);
      v = onTime(second - middle, bus);
      w = onTime(third - middle, bus);
    }

    private long onTime(long volts, long bus) {
      long free = quotient(volts * WHOLE, bus) + HALF;
      if (free < 0 || free > WHOLE) over = true;
      return Math.max(0, Math.min(WHOLE, free));
    }
  }

  private static final class Loop {
    long kp = 200;
    long ki = 20;
    long sum = 0;

    long step(long limit, long e) {
      long free = freeOut(kp, ki, sum, e);
      sum = sumBehind(ki, limit, sum, e, free);
      return clamp(free, limit);
    }

    /** OUT ahead of its clamp. */
    static long freeOut(long kp, long ki, long sum, long e) {
      return (kp * e + sum + ki * e) >> 8;
    }

    /** Beyond the limit the sum may only move towards it, so that it does not wind up. */
    static long sumBehind(long ki, long limit, long sum, long e, long free) {
      boolean windsUp = (free > limit && e >= 0) || (free < -limit && e <= 0);
      return windsUp ? sum : sum + ki * e;
    }
  }

  private static final class Motor {
    private static final int MOST_CURRENT = 32000, MOST_PACE = 60000;

    long d = 0;
    long q = 0;
    long pace = 0;
    long angle = 0;

    void step(long voltsD, long voltsQ, long load) {
      long nextD = d + (voltsD - ((d * 64) >> 8) + ((pace * q) >> 17)) / 4;
      long nextQ = q + (voltsQ - ((q * 64) >> 8) - ((pace * d) >> 17) - (pace >> 3)) / 4;
      long nextPace = pace + (q - load) / 16;
      d = clamp(nextD, MOST_CURRENT);
      q = clamp(nextQ, MOST_CURRENT);
      pace = clamp(nextPace, MOST_PACE);
      angle = (angle + (pace >> 2)) & LAST_ANGLE;
    }
  }

  /** The latest changes of state, in rows of three numbers that are used again. */
  private static final class Changes {
    private static final int KEPT = 20, ROW = 3;

    private final int[] rows = new int[KEPT * ROW];
    private int next = 0;
    private int held = 0;

    void note(int beat, int state, int fault) {
      int start = Math.floorMod(next, KEPT) * ROW;
      rows[start] = beat;
      rows[start + 1] = state;
      rows[start + 2] = fault;
      next = (next + 1) % KEPT;
      held = Math.min(KEPT, held + 1);
    }

    int latest(int i, int what) {
      if (!within(what, 0, ROW - 1)) return OUTSIDE;
      if (i < 0 || i >= held) return NONE;
      return rows[Math.floorMod(next - 1 - i, KEPT) * ROW + what];
    }
  }
}
