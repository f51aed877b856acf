import java.lang.management.ManagementFactory;

/** What an object's 512 calls make is little, however dear they are: rows are used again. */
public final class BasinRoom {
  private static final long MOST_NEW = 8_000;
  private static final long MOST_SEARCHED = 1_000_000;

  private static long made() {
    com.sun.management.ThreadMXBean threads =
        (com.sun.management.ThreadMXBean) ManagementFactory.getThreadMXBean();
    return threads.getThreadAllocatedBytes(Thread.currentThread().getId());
  }

  private static void lay(BargeBasin x) {
    x.basin(6, 6);
    x.make(11, 5);
    for (int y = 0; y < 6; y++) {
      x.barge(5, 0, y, 2, false);
      x.gate(x.count(2) - 1, 3, y);
    }
  }

  private static long callAll(BargeBasin x) {
    long before = made();
    for (int round = 0; round < 30; round++) {
      lay(x);
      x.reach();
      x.far();
      x.go();
      x.fewest();
      x.fewestSteps();
      x.follow(0, 99);
      x.all();
      x.must(0);
      x.trim();
      x.turn(round % 2 == 0);
      x.keep(round % 4);
      x.same(round % 3);
      x.show(round % 6);
    }
    return made() - before;
  }

  public static void main(String[] args) {
    BargeBasin warm = new BargeBasin();
    callAll(warm);
    made();
    long before = made();
    BargeBasin x = new BargeBasin();
    long fresh = made() - before;
    long first = callAll(x);
    long later = callAll(x);
    System.out.println("bytes: new " + fresh + ", first calls " + first + ", later " + later);
    boolean right = fresh < MOST_NEW && first < MOST_SEARCHED && later < MOST_NEW;
    System.out.println(right ? "the room is as due" : "too much is made");
    if (!right) {
      System.exit(1);
    }
  }
}
