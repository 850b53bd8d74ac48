import java.util.ArrayList;
import java.util.Arrays;
import java.util.List;

/**
 * The document a second time, written apart from the class and for plainness alone: >> is floorDiv,
 * every step makes new lists, and each call is answered by its name and its numbers.
 */
final class Model {
  private static final int OUTSIDE = -1000001, NOT = -1000002;
  private static final int[][] RULES = {
    {100, 30000}, {0, 20000}, {-2000, 2000}, {100, 32000}, {0, 60000}, {-60000, 60000}};

  private final long[] rules = {10000, 4000, 0, 20000, 40000, 0};
  private final long[][] gains = {{200, 20}, {200, 20}, {200, 20}};
  private final long[] sums = {0, 0, 0};
  private final List<long[]> changes = new ArrayList<>();
  private long[] wires = {0, 0, 0, 0};
  private long d, q, pace, angle, voltsD, voltsQ, heat, beats, aligned;
  private int state, fault;
  private boolean lost;

  /** A model behind the calls of a table whose answers are looked at elsewhere. */
  static Model led(String table) {
    Model model = new Model();
    for (String row : table.split("\n")) {
      if (row.isBlank()) continue;
      String[] words = row.substring(0, row.indexOf('=')).strip().split(" +");
      List<Integer> a = new ArrayList<>();
      for (int i = 1; i < words.length; i++) a.add(Integer.parseInt(words[i]));
      model.answer(words[0], a);
    }
    return model;
  }

  long answer(String call, List<Integer> a) {
    switch (call) {
      case "sine": return in(a, 0, 65535) ? sine(a.get(0)) : OUTSIDE;
      case "turned": return in(a, -32000, 32000, -32000, 32000, 0, 65535, 0, 3) ? turned(a) : OUTSIDE;
      case "back": return in(a, -32000, 32000, -32000, 32000, 0, 65535, 0, 1)
          ? back(a.get(0), a.get(1), a.get(2))[a.get(3)] : OUTSIDE;
      case "times": return in(a, -32000, 32000, -32000, 32000, 0, 3)
          ? times(a.get(0), a.get(1))[a.get(2)] : OUTSIDE;
      case "rule": return setRule(a.get(0), a.get(1));
      case "gain": return in(a, 0, 2, 0, 1, 0, 4000) ? put(gains[a.get(0)], a.get(1), a.get(2)) : OUTSIDE;
      case "lose": {
        boolean was = lost;
        lost = a.get(0) == 1;
        return was ? 1 : 0;
      }
      case "order": return in(a, 0, 3) ? order(a.get(0)) : OUTSIDE;
      case "beat": {
        if (!in(a, 0, 400)) return OUTSIDE;
        for (int i = 0; i < a.get(0); i++) beat();
        return state;
      }
      case "told": return in(a, 0, 17) ? told()[a.get(0)] : OUTSIDE;
      case "ring": {
        if (a.get(1) < 0 || a.get(1) > 2) return OUTSIDE;
        int i = a.get(0);
        return i < 0 || i >= changes.size() || i >= 20 ? -1 : changes.get(changes.size() - 1 - i)[a.get(1)];
      }
      case "loop": return in(a, 0, 4000, 0, 4000, 0, 32000, -100000000, 100000000, -100000, 100000, 0, 1)
          ? loop(a.get(0), a.get(1), a.get(2), a.get(3), a.get(4))[a.get(5)] : OUTSIDE;
      default: return digest();
    }
  }

  private static boolean in(List<Integer> a, int... bounds) {
    for (int i = 0; i < a.size(); i++) {
      if (a.get(i) < bounds[2 * i] || a.get(i) > bounds[2 * i + 1]) return false;
    }
    return true;
  }

  private static long down(long v, int k) {
    return Math.floorDiv(v, 1L << k);
  }

  private static long clamp(long v, long m) {
    if (v < -m) return -m;
    return v > m ? m : v;
  }

  private static long sine(long any) {
    long angle = Math.floorMod(any, 65536L);
    long x = angle % 32768;
    long p = x * (32768 - x);
    return (angle >= 32768 ? -1 : 1) * (131068 * p / (1342177280L - p));
  }

  private static long turned(List<Integer> a) {
    long alpha = a.get(0);
    long beta = down((alpha + 2L * a.get(1)) * 37837, 16);
    long s = sine(a.get(2));
    long c = sine(a.get(2) + 16384);
    return new long[] {alpha, beta, down(alpha * c + beta * s, 15), down(beta * c - alpha * s, 15)}[a.get(3)];
  }

  private static long[] back(long d, long q, long angle) {
    long s = sine(angle);
    long c = sine(angle + 16384);
    return new long[] {down(d * c - q * s, 15), down(d * s + q * c, 15)};
  }

  private long[] times(long alpha, long beta) {
    long v = down(beta * 56756 - alpha * 32768, 16);
    long[] volts = {alpha, v, -alpha - v};
    long m = (Arrays.stream(volts).max().getAsLong() + Arrays.stream(volts).min().getAsLong()) / 2;
    long[] out = new long[4];
    for (int i = 0; i < 3; i++) {
      long free = (volts[i] - m) * 8192 / rules[0] + 4096;
      out[i] = 4096 + clamp(free - 4096, 4096);
      if (out[i] != free) out[3] = 1;
    }
    return out;
  }

  private static long[] loop(long kp, long ki, long limit, long sum, long e) {
    long out = down(kp * e + sum + ki * e, 8);
    if (Math.abs(out) <= limit) return new long[] {out, sum + ki * e};
    boolean moves = (e < 0 && out > limit) || (e > 0 && out < -limit);
    return new long[] {clamp(out, limit), moves ? sum + ki * e : sum};
  }

  private static long put(long[] row, int i, long v) {
    long was = row[i];
    row[i] = v;
    return was;
  }

  private long setRule(int what, int v) {
    if (what < 0 || what > 5 || v < RULES[what][0] || v > RULES[what][1]) return OUTSIDE;
    return put(rules, what, v);
  }

  private long order(int what) {
    int was = state;
    boolean moving = was == 1 || was == 2 || was == 3;
    boolean may = what == 0 ? was == 0 : what == 1 ? was == 2 : what == 3 ? moving : was == 4 && faults().isEmpty();
    if (!may) return NOT;
    change(what == 0 ? 1 : what == 1 ? 3 : 0, 0);
    return was;
  }

  private void change(int next, int why) {
    state = next;
    fault = why;
    aligned = 0;
    changes.add(new long[] {beats, next, why});
  }

  private List<Integer> faults() {
    List<Integer> found = new ArrayList<>();
    if (Math.max(Math.abs(d), Math.abs(q)) > rules[3]) found.add(1);
    if (rules[0] > 25000) found.add(2);
    if (lost && (state == 2 || state == 3)) found.add(3);
    if (heat > 100000) found.add(4);
    return found;
  }

  private long step(int k, long limit, long e) {
    long[] both = loop(gains[k][0], gains[k][1], limit, sums[k], e);
    sums[k] = both[1];
    return both[0];
  }

  private void beat() {
    List<Integer> found = faults();
    if (!found.isEmpty() && state != 4) change(4, found.get(0));
    int now = state;
    if (now == 0 || now == 4) {
      Arrays.fill(sums, 0);
      voltsD = voltsQ = 0;
      wires = new long[4];
    } else {
      if (now == 1) {
        aligned++;
        voltsD = 600;
        voltsQ = 0;
      } else {
        loops(now == 2 ? rules[5] : 0);
      }
      long[] vector = back(voltsD, voltsQ, now == 1 ? 0 : angle);
      wires = times(vector[0], vector[1]);
    }
    motor();
    heat += down(d * d + q * q, 16) - down(heat, 8);
    if (now == 1 && aligned == 64) {
      change(2, 0);
      angle = 0;
    }
    if (now == 3 && Math.abs(pace) < 64) change(0, 0);
    beats++;
  }

  private void loops(long wanted) {
    long limit = down(rules[0] * 9459, 14);
    long wantedQ = step(2, rules[1], wanted - pace);
    long size = Math.abs(pace);
    long wantedD = size > rules[4] ? Math.max(-4000, down(rules[4] - size, 4)) : 0;
    voltsD = step(0, limit, wantedD - d);
    voltsQ = step(1, limit, wantedQ - q);
  }

  private void motor() {
    long nextD = d + (voltsD - down(d * 64, 8) + down(pace * q, 17)) / 4;
    long nextQ = q + (voltsQ - down(q * 64, 8) - down(pace * d, 17) - down(pace, 3)) / 4;
    pace = clamp(pace + (q - rules[2]) / 16, 60000);
    d = clamp(nextD, 32000);
    q = clamp(nextQ, 32000);
    angle = Math.floorMod(angle + down(pace, 2), 65536L);
  }

  private long[] told() {
    return new long[] {state, fault, d, q, pace, angle, wires[0], wires[1], wires[2], voltsD, voltsQ,
      heat, beats, wires[3], sums[0], sums[1], sums[2], aligned};
  }

  private long digest() {
    int digest = 7;
    for (long one : told()) digest = 31 * digest + (int) one;
    return digest;
  }
}
