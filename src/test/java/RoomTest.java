import java.lang.management.ManagementFactory;

/** No call makes an object or an array; a new object is small. So the room lasts, however many calls come. */
public final class RoomTest {
  private static final com.sun.management.ThreadMXBean THREADS = (com.sun.management.ThreadMXBean) ManagementFactory.getThreadMXBean();
  private static final int MOST_BYTES_OF_ONE = 64 * 1024;
  private static long answers = 0;

  private static long made() {
    return THREADS.getThreadAllocatedBytes(Thread.currentThread().getId());
  }

  public static void main(String[] args) {
    long leastOfOne = Long.MAX_VALUE;
    long leastOfCalls = Long.MAX_VALUE;
    // The machine itself may set something aside the first times, so the least of some rounds is taken.
    for (int round = 0; round < 10; round++) {
      long start = made();
      MostSold x = new MostSold();
      long ready = made();
      all(x);
      long end = made();
      leastOfOne = Math.min(leastOfOne, ready - start);
      leastOfCalls = Math.min(leastOfCalls, end - ready);
    }
    System.out.println("a new object: " + leastOfOne + " bytes; its calls: " + leastOfCalls);
    Due.is("a new object is small", leastOfOne <= MOST_BYTES_OF_ONE ? 1 : 0, 1);
    Due.is("bytes that the calls made", leastOfCalls, 0);
    Due.is("answers", answers == 0 ? 1 : 0, 0);
    Due.close();
  }

  private static void all(MostSold x) {
    for (int i = 0; i < 12; i++) answers += x.title(i % 2);
    for (int i = 0; i < 24; i++) answers += x.thing(i % 12, i % 4, 50);
    for (int i = 0; i < 16; i++) answers += x.shop(i % 2, 1 + i, 0, 51);
    answers += x.type('r') + x.type('=') + x.type('2') + x.fault() + x.rule(2, 3) + x.why(2, 3);
    for (int s = 0; s < 3; s++) answers += x.sheet(s, 3, 120);
    for (int i = 0; i < 11; i++) answers += x.put(0, 3, 7 * i + 4, 9) + x.put(0, 3, 7 * i + 1, i);
    for (int i = 0; i < 100; i++) answers += x.sale(i % 9, i % 24, i % 5, i, 1 + i, i % 4, 5);
    answers += x.read(0) + x.about(3, 8) + x.strike(3, 9) + x.back(3) + x.asOf(50) + x.empty(1, 2, 3) + x.coins(1, 2);
    for (int i = 0; i < 5; i++) {
      answers += x.tells(i, i) + x.amount(i, i, i, i) + x.sum(i, i, i, 0) + x.sure(i, i) + x.place(i, i, i) + x.line(i, i, i);
      answers += x.span(i, i, 0) + x.firm(i) + x.alike(i, i + 1, i, 3) + x.odd(i) + x.cannot(i) + x.doubted(i) + x.moves(i);
      answers += x.worth(i, i) + x.ask(i, 100) + x.get(0, 3, i) + x.copy(0, 0, 1, i, 50) + x.write(1, i) + x.count(i);
    }
    answers += x.digest() + x.lose(2) + x.wipe();
  }
}
