import java.lang.management.ManagementFactory;

/** All calls of one run live in one room: only constructors make objects, and these are small. */
public final class RoomTest {
  private static final int OBJECTS = 50;

  public static void main(String[] args) {
    if (!(ManagementFactory.getThreadMXBean() instanceof com.sun.management.ThreadMXBean meter)) {
      System.out.println("this machine does not count what a thread makes");
      return;
    }
    TurnedFields[] all = new TurnedFields[OBJECTS];
    use(new TurnedFields());
    long before = meter.getCurrentThreadAllocatedBytes();
    for (int i = 0; i < OBJECTS; i++) all[i] = new TurnedFields();
    long made = meter.getCurrentThreadAllocatedBytes();
    for (TurnedFields one : all) use(one);
    long used = meter.getCurrentThreadAllocatedBytes();
    Runs.due("an object stays below 2000 bytes", (made - before) / OBJECTS < 2000 ? 1 : 0, 1);
    // Some 480 calls of each of 50 objects: a byte a call would already be seen.
    Runs.due("its calls make nothing", used - made < 20000 ? 1 : 0, 1);
    Runs.end();
  }

  private static void use(TurnedFields x) {
    x.order(0);
    x.rule(5, 3000);
    for (int i = 0; i < 300; i++) {
      if (i % 20 == 10) x.order(i % 40 == 10 ? 1 : 0);
      x.beat(400);
    }
    for (int i = 0; i < 15; i++) {
      x.sine(i);
      x.turned(i, i, i, 2);
      x.back(i, i, i, 1);
      x.times(i, i, 2);
      x.rule(2, i);
      x.gain(1, 1, i);
      x.lose(false);
      x.told(i);
      x.ring(i, 1);
      x.loop(1, 2, 3, 4, i, 1);
      x.digest();
    }
  }
}
