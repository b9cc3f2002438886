import com.sun.management.ThreadMXBean;
import java.lang.management.ManagementFactory;

/** All calls live in one room: what an object makes is made with it and small, and its calls make nothing. */
public final class RoomTest {
  private static final long BYTES_OF_AN_OBJECT = 20000;
  private static final long BYTES_OF_ALL_CALLS = 20000;
  private static final String TEXT = "p1;p1;p0;p1;p0;p1;r0 1 20;r1 2 13;r2 3 18;r3 4 20;r4 5 20;r0 5 19;r1 4 14;r2 5 7;r0 3 9;"
      + "m0 5 9 5 40;m2 4 9 5 60;m4 0 9 0 200;m0 3 9 1 120;c0;c4;";

  public static void main(String[] args) {
    ThreadMXBean threads = (ThreadMXBean) ManagementFactory.getThreadMXBean();
    long own = Thread.currentThread().getId();
    // once ahead, so that what the machine makes for itself is not counted
    use(new HasteRoads());
    threads.getThreadAllocatedBytes(own);
    long start = threads.getThreadAllocatedBytes(own);
    HasteRoads x = new HasteRoads();
    long made = threads.getThreadAllocatedBytes(own);
    use(x);
    long used = threads.getThreadAllocatedBytes(own);
    Check.holds("an object has " + (made - start) + " bytes", made - start <= BYTES_OF_AN_OBJECT);
    Check.holds("its calls make " + (used - made) + " bytes", used - made <= BYTES_OF_ALL_CALLS);
    Check.end("RoomTest");
  }

  private static void use(HasteRoads x) {
    for (int i = 0; i < TEXT.length(); i++) x.feed(TEXT.charAt(i));
    x.land();
    for (int n = 0; n < 10; n++) {
      int p = n % 4;
      x.drift(9);
      x.keep(n % 2);
      x.soonest(p, n % 6);
      x.step(p, n);
      x.latest(p);
      x.inns(1);
      x.relay(0, 5, 1);
      x.meet(0, 1, 0);
      x.cost(n % 6);
      x.shorter(0);
      x.lend(0, 3, 0);
      x.guard(0, 3);
      x.round(p, 63);
      x.took(p, 0, 0, 5, 12);
      x.spent(n);
      x.lie();
      x.write(-2);
      x.judge(p, 1);
      x.goBack(n % 2);
    }
  }
}
