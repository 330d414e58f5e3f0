import java.lang.management.ManagementFactory;

/** What the calls of a run make: a run shares one room, so only a law that is kept makes anything. */
public final class RoomTaken {
  private static final int CALLS = 512;
  private static int wrong = 0;

  private static long made() {
    return ((com.sun.management.ThreadMXBean) ManagementFactory.getThreadMXBean()).getThreadAllocatedBytes(Thread.currentThread().getId());
  }

  private static void atMost(String what, long got, long most) {
    if (got > most) {
      wrong++;
      System.out.println(what + " made " + got + " bytes, at most " + most + " are due");
    }
  }

  private static BorrowedDays busy() {
    BorrowedDays x = new BorrowedDays();
    x.terms(0, 8);
    long[] text = words("costs [holder+to]*3-held/2;wants if price<99;sells if price>50;pays day if rain=0;bars if to=7 and day>20");
    for (int i = 0; i + 4 < text.length; i += 5) x.feed((int) text[i], (int) text[i + 1], (int) text[i + 2], (int) text[i + 3], (int) text[i + 4]);
    x.law();
    x.force(0);
    for (int i = 0; i < 7; i++) x.lend(i, i, i + 1);
    for (int i = 0; i < 10; i++) x.deed(i % 8, i, i);
    return x;
  }

  private static long[] words(String text) {
    StringBuilder s = new StringBuilder(text);
    while (s.length() % 20 != 0) s.append(' ');
    long[] all = new long[s.length() / 4];
    for (int i = 0; i < s.length(); i++) all[i / 4] = all[i / 4] << 8 | s.charAt(i);
    return all;
  }

  private static void run(BorrowedDays x, int i) {
    x.of(1, 2, 3, i % 3); x.lend(i % 8, i % 28, (i + 3) % 8); x.home(i % 8, i % 28); x.undo(); x.live(1, i % 30, 1);
    x.when(1, 2, 0); x.age(1, 2, 20); x.wages(1, 224); x.gap(1); x.owes(1, 2); x.away(); x.ring(0); x.easter(20, 0);
    x.trade(20, 1, 1); x.chain(1, 7); x.last(1, 2, 1); x.price(NONE); x.deed(0, 0, 0); x.burn(9); x.forged(0); x.explains(0);
    x.year(i, 60); x.drawn(1, 1); x.image(i % 2); x.back(i % 2); x.count(4); x.status(); x.rain(1, 1); x.terms(1, 10);
    x.feed(i, i, i, i, i); x.row(); x.fog(); x.fault();
  }

  private static final int NONE = -1;

  public static void main(String[] args) {
    BorrowedDays x = busy();
    run(x, 0);
    made();
    long before = made();
    for (int i = 0; i < CALLS; i++) run(x, i);
    atMost("calls that keep no law", made() - before, 4096);
    before = made();
    new BorrowedDays();
    atMost("a new object", made() - before, 40000);
    System.out.println(wrong == 0 ? "the room is kept" : wrong + " faults");
    if (wrong != 0) System.exit(1);
  }
}
