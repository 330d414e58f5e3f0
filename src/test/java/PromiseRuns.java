/** For each promise of the document ordinary calls, its edges, and wrong inputs, reckoned by hand. */
public final class PromiseRuns {
  private static final int NONE = -1;
  private static final int NOTHING = -1000000;
  private static int wrong = 0;

  private static void due(int promise, String call, int got, int want) {
    if (got != want) {
      wrong++;
      System.out.println("promise " + promise + ": " + call + " answered " + got + ", due is " + want);
    }
  }

  // ---- helpers ----

  private static void feedText(BorrowedDays x, String text) {
    for (int at = 0; at < text.length(); at += 20) {
      int[] five = new int[5];
      for (int i = 0; i < 20; i++) five[i / 4] = five[i / 4] << 8 | (at + i < text.length() ? text.charAt(at + i) : ' ');
      x.feed(five[0], five[1], five[2], five[3], five[4]);
    }
    x.end(text.length());
  }

  private static int law(BorrowedDays x, String text) {
    feedText(x, text);
    return x.law();
  }

  /** A new object with this law in force. */
  private static BorrowedDays under(String text) {
    BorrowedDays x = new BorrowedDays();
    due(8, "law '" + text + "'", law(x, text), 0);
    x.force(0);
    return x;
  }

  private static void faultDue(String text, int place) {
    BorrowedDays x = new BorrowedDays();
    due(8, "law '" + text + "'", law(x, text), place == NONE ? 0 : -6);
    due(9, "fault of '" + text + "'", x.fault(), place);
    due(8, "the tape behind '" + text + "'", x.count(5), 0);
    due(8, "the laws behind '" + text + "'", x.count(2), place == NONE ? 1 : 0);
  }

  private static void payDue(String text, int pay) {
    due(11, "of(0, 9, 0, 2) under '" + text + "'", under(text).of(0, 9, 0, 2), pay);
  }

  private static void barDue(String text, int is) {
    due(11, "of(1, 9, 2, 1) under '" + text + "'", under(text).of(1, 9, 2, 1), is);
  }

  private static String times(String part, int n) {
    return part.repeat(n);
  }

  // ---- the promises ----

  private static void newObject() {
    BorrowedDays x = new BorrowedDays();
    int[] counts = {4, 0, 0, 0, 0, 0, 0, 0, 0, 0, 0, NONE, 10};
    for (int i = 0; i < counts.length; i++) due(1, "count(" + i + ")", x.count(i), counts[i]);
    due(1, "away()", x.away(), 0);
    for (int v = 0; v < 4; v++) for (int d = 0; d < 28; d++) due(1, "of", x.of(v, d, 0, 0), v);
    due(1, "status()", x.status(), 0);
    due(1, "fog()", x.fog(), 0);
    due(1, "fault()", x.fault(), NONE);
    due(1, "the constant NONE", BorrowedDays.NONE, NONE);
    due(1, "the constant NOTHING", BorrowedDays.NOTHING, NOTHING);
  }

  private static void theTerms() {
    BorrowedDays x = new BorrowedDays();
    due(2, "terms(0, 8)", x.terms(0, 8), 4);
    due(2, "live(7, -1, 0)", x.live(7, NONE, 0), 28);
    due(2, "terms(0, 1)", x.terms(0, 1), 8);
    due(2, "live(1, -1, 0)", x.live(1, NONE, 0), NONE);
    due(2, "terms(1, 99)", x.terms(1, 99), 10);
    due(2, "terms(1, 1)", x.terms(1, 1), 99);
    due(2, "count(12)", x.count(12), 1);
    int[][] bad = {{0, 0}, {0, 9}, {0, -1}, {1, 0}, {1, 100}, {2, 1}, {-1, 1}, {Integer.MIN_VALUE, 4}, {0, Integer.MAX_VALUE}};
    for (int[] b : bad) due(2, "terms(" + b[0] + ", " + b[1] + ")", x.terms(b[0], b[1]), -1);
    due(2, "count(6)", x.count(6), bad.length);
    due(2, "count(0)", x.count(0), 1);
    due(2, "count(12)", x.count(12), 1);
  }

  private static void villagesComeAndGo() {
    BorrowedDays x = new BorrowedDays();
    x.lend(0, 3, 3);
    x.lend(3, 4, 0);
    x.lend(1, 5, 2);
    x.deed(0, 0, 0);
    due(2, "terms(0, 9)", x.terms(0, 9), -1);
    due(2, "terms(1, 10)", x.terms(1, 10), 10);
    due(2, "count(4), refused or the other term", x.count(4), 3);
    due(2, "count(3), refused or the other term", x.count(3), 1);
    due(2, "terms(0, 4), the same", x.terms(0, 4), 4);
    due(2, "count(4), no village came or went", x.count(4), 0);
    due(2, "count(3), no village came or went", x.count(3), 0);
    due(2, "forged(-1), no village came or went", x.forged(NONE), 0);
    due(2, "undo(), no village came or went", x.undo(), -3);
    due(2, "away(), no village came or went", x.away(), 3);
    x.home(1, 5);
    x.lend(1, 5, 2);
    x.deed(0, 0, 0);
    due(2, "terms(0, 3)", x.terms(0, 3), 4);
    due(2, "of(0, 3), its holder went", x.of(0, 3, 0, 0), 0);
    due(2, "of(1, 5), its holder stayed", x.of(1, 5, 0, 0), 2);
    due(2, "live(0), without the copy of who went", x.live(0, NONE, 0), 28);
    due(2, "count(4)", x.count(4), 0);
    due(2, "count(3)", x.count(3), 0);
    due(2, "away()", x.away(), 1);
    due(2, "terms(0, 4)", x.terms(0, 4), 3);
    due(2, "of(3, 4), its owner came", x.of(3, 4, 0, 0), 3);
    due(2, "live(3)", x.live(3, NONE, 0), 28);
    x.lend(0, 3, 3);
    x.deed(0, 0, 0);
    x.terms(0, 5);
    due(2, "of(0, 3), when one comes", x.of(0, 3, 0, 0), 3);
    due(2, "count(4), when one comes", x.count(4), 0);
    due(2, "count(3), when one comes", x.count(3), 0);
  }

  private static void rainyDays() {
    BorrowedDays x = new BorrowedDays();
    due(3, "rain(0, 1)", x.rain(0, 1), 0);
    due(3, "rain(0, 1) again", x.rain(0, 1), 1);
    due(3, "rain(27, 1)", x.rain(27, 1), 0);
    due(36, "count(1)", x.count(1), 2);
    due(3, "rain(0, 0)", x.rain(0, 0), 1);
    due(3, "rain(0, 0) again", x.rain(0, 0), 0);
    due(36, "count(1)", x.count(1), 1);
    due(3, "rain(28, 1)", x.rain(28, 1), -1);
    due(3, "rain(-1, 1)", x.rain(-1, 1), -1);
    due(3, "rain(1, -1)", x.rain(1, -1), -1);
    due(3, "rain(1, 2)", x.rain(1, 2), -1);
    due(3, "status()", x.status(), -1);
    due(36, "count(1)", x.count(1), 1);
  }

  private static void theTape() {
    BorrowedDays x = new BorrowedDays();
    for (int i = 1; i <= 20; i++) due(4, "feed", x.feed(0, 0, 0, 0, 0), 20 * i);
    due(4, "feed, too much", x.feed(0, 0, 0, 0, 0), NONE);
    due(36, "count(5)", x.count(5), 400);
    due(5, "end(401)", x.end(401), NONE);
    due(5, "end(-1)", x.end(-1), NONE);
    due(36, "count(5)", x.count(5), 400);
    due(5, "end(381)", x.end(381), 381);
    due(4, "feed at 381", x.feed(0, 0, 0, 0, 0), NONE);
    due(5, "end(380)", x.end(380), 380);
    due(4, "feed at 380", x.feed(0, 0, 0, 0, 0), 400);
    due(5, "end(0)", x.end(0), 0);
    due(5, "end(1)", x.end(1), NONE);
    due(5, "end(0) again", x.end(0), 0);
    due(37, "status(): feed and end are not REFUSED", x.status(), 0);
    due(36, "count(6)", x.count(6), 0);
  }

  private static void rowsOfRain() {
    BorrowedDays x = new BorrowedDays();
    due(6, "row(), the tape is empty", x.row(), -6);
    due(7, "fog()", x.fog(), 0);
    x.rain(3, 1);
    x.feed(0x00030300, 0x1b1cff80, 0x05060708, 0x090a0b0c, 0x0d0e0f10);
    x.end(8);
    due(6, "row()", x.row(), 2);
    due(7, "fog()", x.fog(), 3);
    due(36, "count(1)", x.count(1), 3);
    due(36, "count(5)", x.count(5), 0);
    due(6, "row(), refused", x.row(), -6);
    due(7, "fog() of the one ahead", x.fog(), 3);
    due(36, "count(10)", x.count(10), 2);
    x.feed(0x7fffffff, 0x80000000, 0x01020304, 0, 0x191a1b1b);
    due(6, "row() of all twenty", x.row(), 5);
    due(7, "fog()", x.fog(), 5);
    x.feed(1, 1, 1, 1, 1);
    due(6, "row(), none new", x.row(), 0);
    due(7, "fog()", x.fog(), 0);
  }

  private static void lawsThatCanBe() {
    String[] good = {
      "bars", "wants", "sells", "pays 0", "costs 1000", "pays1000", "  pays  0001000  ", "pays 1+2-3*4/5",
      "pays [1]", "bars if 1<2", "bars if(1<2)", "bars if not not 1=2 and 2>1 or day=3", "pays 5if day<3",
      "bars;bars ; bars", "pays owner+holder+to+day+weekday+rain+held+price",
      "costs " + times("[", 8) + "1" + times("]", 8), "bars if " + times("(", 8) + "1=1" + times(")", 8),
      "bars if " + times("(", 4) + times("[", 4) + "1" + times("]", 4) + "=1" + times(")", 4),
      times("bars;", 11) + "bars", "pays 1" + times("+1", 49), "bars if " + times("not ", 95) + "1=1", "pays [1]*[[2]]"};
    for (String text : good) faultDue(text, NONE);
  }

  private static void faults() {
    faultDue("", 0);
    faultDue("     ", 5);
    faultDue("Pays 1", 0);
    faultDue("pay 1", 0);
    faultDue("paysday", 0);
    for (String head : new String[] {"pays", "costs", "bars", "wants", "sells"}) faultDue("x" + head.substring(1) + " 1", 0);
    for (String word : new String[] {"owner", "holder", "to", "day", "weekday", "rain", "held", "price"}) {
      faultDue("pays x" + word.substring(1), 5);
      faultDue("pays " + word.substring(0, word.length() - 1) + "x", 5);
      faultDue("pays " + word + "s", 5);
    }
    faultDue("bars xf 1=1", 5);
    faultDue("bars if xot 1=1", 8);
    faultDue("bars if 1=1 xr 1=1", 12);
    faultDue("bars if 1=1 xnd 1=1", 12);
    faultDue(";", 0);
    faultDue("pays", 4);
    faultDue("pays  ", 6);
    faultDue("pays +", 5);
    faultDue("pays -1", 5);
    faultDue("pays 1001", 5);
    faultDue("pays 99999999999999999999", 5);
    faultDue("pays 1 2", 7);
    faultDue("pays days", 5);
    faultDue("pays 1,", 6);
    faultDue("pays (1)", 5);
    faultDue("pays [1)", 7);
    faultDue("pays [1", 7);
    faultDue("pays 1]", 6);
    faultDue("bars 1", 5);
    faultDue("bars if", 7);
    faultDue("bars if 1", 9);
    faultDue("bars if 1=", 10);
    faultDue("bars if 1==1", 10);
    faultDue("bars if (1)=1", 10);
    faultDue("bars if [1=1]", 10);
    faultDue("bars if not", 11);
    faultDue("bars if 1=1 and", 15);
    faultDue("bars if 1=1 or ;", 15);
    faultDue("bars if 1=1 if 1=1", 12);
    faultDue("bars if (1=1", 12);
    faultDue("bars if 1=1)", 11);
    faultDue("bars if 1<2<3", 11);
    faultDue("bars;", 5);
    faultDue("bars; ;", 6);
    faultDue("bars;;bars", 5);
    faultDue("bars\tif", 4);
    faultDue("bars" + (char) 255, 4);
    faultDue("if 1=1", 0);
    faultDue(times("bars;", 12) + "bars", 60);
    faultDue(times("bars;", 12) + "  sells", 62);
    faultDue(times("bars;", 12), 60);
    faultDue("pays 1" + times("+1", 50), 105);
    faultDue("pays 1" + times("+1", 49) + "; pays day", 111);
    faultDue("costs " + times("[", 9) + "1", 14);
    faultDue("bars if " + times("(", 9) + "1", 16);
    faultDue("bars if " + times("(", 4) + times("[", 5) + "1", 16);
    faultDue("bars if " + times("(", 8) + "[1]=1", 16);
  }

  private static void lawsFull() {
    BorrowedDays x = new BorrowedDays();
    due(9, "fault() ahead of any", x.fault(), NONE);
    for (int i = 0; i < 6; i++) due(8, "law()", law(x, "pays " + i), i);
    due(8, "law(), bad", law(x, "pays"), -5);
    due(9, "fault(): that one was not read", x.fault(), NONE);
    due(8, "the tape", x.count(5), 0);
    due(8, "law(), good", law(x, "pays 7"), -5);
    due(36, "count(2)", x.count(2), 6);
    due(36, "count(9)", x.count(9), 2);
    due(37, "status()", x.status(), -5);
    x = new BorrowedDays();
    law(x, "pays");
    due(9, "fault()", x.fault(), 4);
    law(x, "pays 4");
    due(9, "fault()", x.fault(), NONE);
  }

  private static void forces() {
    BorrowedDays x = new BorrowedDays();
    law(x, "pays 5");
    law(x, "pays 6");
    due(10, "none at first", x.of(0, 0, 0, 2), 1);
    due(10, "force(0)", x.force(0), NONE);
    due(10, "status()", x.status(), 0);
    due(10, "pays", x.of(0, 0, 0, 2), 5);
    due(10, "force(1)", x.force(1), 0);
    due(10, "pays", x.of(0, 0, 0, 2), 6);
    due(10, "force(2)", x.force(2), -2);
    due(10, "force(-2)", x.force(-2), -2);
    due(10, "count(11)", x.count(11), 1);
    due(10, "force(-1)", x.force(NONE), 1);
    due(10, "pays", x.of(0, 0, 0, 2), 1);
    due(36, "count(7)", x.count(7), 2);
  }

  private static void sums() {
    payDue("pays 7-2-1", 4);
    payDue("pays 2+3*4", 14);
    payDue("pays [2+3]*4", 20);
    payDue("pays 100/7/2", 7);
    payDue("pays 1-8/3", -1);
    payDue("pays [1-8]/2", -3);
    payDue("pays 7/[1-3]", -3);
    payDue("pays 200", 99);
    payDue("pays 0-200", -99);
    payDue("pays 100", 99);
    payDue("pays 0-100", -99);
    payDue("pays 1000*1000*1000/1000/1000/100", 10);
    payDue("pays [1000*1000*1000+1]/1000/1000/100", 1);
    payDue("pays [0-1000*1000*1000]/1000/1000/100", -10);
    payDue("pays [0-1000*1000*1000-1]/1000/1000/100", 1);
    payDue("pays 5; pays 1/0", 5);
    payDue("pays 5; pays 1/[day-9]", 5);
    payDue("pays 5; pays 6", 6);
    payDue("pays 5; costs 6; bars", 5);
    payDue("pays 5; pays 6 if day=8", 5);
    payDue("pays day*10+weekday", 92);
    payDue("pays owner", 0);
    payDue("pays holder", 0);
    payDue("pays to", -1);
    payDue("pays held", 0);
    payDue("pays price", -1);
    payDue("pays rain+20", 20);
    payDue("costs 5", 1);
  }

  private static void tests() {
    barDue("bars", 1);
    barDue("sells", 0);
    barDue("bars if 1=2", 0);
    barDue("bars if 1<2", 1);
    barDue("bars if 2<2", 0);
    barDue("bars if 2>2", 0);
    barDue("bars if 3>2", 1);
    barDue("bars if not 1=2", 1);
    barDue("bars if not not 1=2", 0);
    barDue("bars if 1=1 or 1=2 and 1=2", 1);
    barDue("bars if (1=1 or 1=2) and 1=2", 0);
    barDue("bars if not 1=2 and 1=2", 0);
    barDue("bars if not (1=2 and 1=2)", 1);
    barDue("bars if 1/0=1", 0);
    barDue("bars if not 1/0=1", 0);
    barDue("bars if 1=1 or 1/0=1", 1);
    barDue("bars if 1/0=1 or 1=1", 0);
    barDue("bars if 1=2 and 1/0=1 or 1=1", 1);
    barDue("bars if not (1=2 and 1/0=1)", 1);
    barDue("bars if 1=1 and 1/0=1", 0);
    barDue("bars if 1=1 or 1=2 or 1/0=1", 1);
    barDue("bars if 1=2 or 1=1 or 1/0=1", 1);
    barDue("bars if 1=1 and 1=2 and 1/0=1 or 2=2", 1);
    barDue("bars; bars if 1=2", 1);
    barDue("bars if owner=1 and holder=1 and to=2 and day=9 and weekday=2 and rain=0 and held=28 and price=0-1", 1);
  }

  private static void copies() {
    BorrowedDays x = under("bars if to=holder; pays owner*10+holder");
    x.lend(1, 4, 2);
    due(11, "of(1, 4, 9, 0), to does not matter", x.of(1, 4, 9, 0), 2);
    due(11, "of(1, 4, -7, 2), to does not matter", x.of(1, 4, -7, 2), 12);
    due(11, "of(1, 4, 2, 1), who holds it", x.of(1, 4, 2, 1), 1);
    due(11, "of(1, 4, 1, 1)", x.of(1, 4, 1, 1), 0);
    due(11, "of(4, 0, 0, 0)", x.of(4, 0, 0, 0), NOTHING);
    due(11, "of(-1, 0, 0, 0)", x.of(-1, 0, 0, 0), NOTHING);
    due(11, "of(0, 28, 0, 0)", x.of(0, 28, 0, 0), NOTHING);
    due(11, "of(0, -1, 0, 0)", x.of(0, -1, 0, 0), NOTHING);
    due(11, "of(0, 0, 4, 1)", x.of(0, 0, 4, 1), NOTHING);
    due(11, "of(0, 0, -1, 1)", x.of(0, 0, -1, 1), NOTHING);
    due(11, "of(0, 0, 0, 3)", x.of(0, 0, 0, 3), NOTHING);
    due(11, "of(0, 0, 0, -1)", x.of(0, 0, 0, -1), NOTHING);
    due(11, "status()", x.status(), 0);
    x = under("bars if held>28");
    x.lend(0, 0, 1);
    due(11, "held, without the one that would come", x.of(0, 1, 1, 1), 1);
    due(11, "held of another one", x.of(0, 1, 2, 1), 0);
  }

  private static void loans() {
    BorrowedDays x = under("bars if to=3 or rain=1");
    due(12, "lend(0, 1, 2)", x.lend(0, 1, 2), 0);
    due(12, "lend(0, 1, 1)", x.lend(0, 1, 1), 2);
    due(12, "lend(0, 1, 1), it is there", x.lend(0, 1, 1), -3);
    due(12, "lend(0, 1, 3), barred", x.lend(0, 1, 3), -3);
    due(12, "lend(0, 28, 9)", x.lend(0, 28, 9), -1);
    due(12, "lend(0, -1, 1)", x.lend(0, -1, 1), -1);
    due(12, "lend(4, 0, 0)", x.lend(4, 0, 0), -2);
    due(12, "lend(0, 0, 4)", x.lend(0, 0, 4), -2);
    due(12, "lend(-1, 0, 0)", x.lend(-1, 0, 0), -2);
    due(12, "lend(0, 0, -1)", x.lend(0, 0, -1), -2);
    due(12, "of(0, 1)", x.of(0, 1, 0, 0), 1);
    due(36, "count(4)", x.count(4), 2);
    x.rain(1, 1);
    due(12, "lend(0, 1, 0), barred by rain", x.lend(0, 1, 0), -3);
    due(13, "home(0, 1), nobody is barred from home", x.home(0, 1), 1);
    due(13, "home(0, 1), at home", x.home(0, 1), -3);
    due(13, "home(0, 28)", x.home(9, 28), -1);
    due(13, "home(0, -1)", x.home(0, -1), -1);
    due(13, "home(4, 0)", x.home(4, 0), -2);
    due(13, "home(-1, 0)", x.home(-1, 0), -2);
    due(14, "undo() the home, though it is barred", x.undo(), 0);
    due(14, "of(0, 1)", x.of(0, 1, 0, 0), 1);
    due(14, "undo()", x.undo(), 0);
    due(14, "of(0, 1)", x.of(0, 1, 0, 0), 2);
    due(14, "undo()", x.undo(), 0);
    due(14, "undo(), none", x.undo(), -3);
    due(36, "count(6)", x.count(6), 4);
    due(36, "count(7)", x.count(7), 6);
    due(36, "count(8)", x.count(8), 5);
  }

  private static void undoneKept() {
    BorrowedDays x = new BorrowedDays();
    for (int i = 0; i < 33; i++) x.lend(i / 28 + 1, i % 28, 0);
    due(36, "count(4)", x.count(4), 32);
    for (int i = 32; i >= 1; i--) due(14, "undo() " + i, x.undo(), i / 28 + 1);
    due(14, "undo(), the 33rd", x.undo(), -3);
    due(14, "away()", x.away(), 1);
    due(14, "of(1, 0)", x.of(1, 0, 0, 0), 0);
    x.lend(2, 5, 3);
    due(14, "undo() of a new one", x.undo(), 2);
  }

  private static void rows() {
    BorrowedDays x = new BorrowedDays();
    x.lend(3, 1, 2);
    x.lend(0, 1, 2);
    x.lend(2, 0, 1);
    int[][] row = {{1, 0}, {1, 2}, {1, 3}, {2, 2}};
    for (int i = 0; i < row.length; i++) {
      due(15, "live(2, " + i + ", 0)", x.live(2, i, 0), row[i][0]);
      due(15, "live(2, " + i + ", 1)", x.live(2, i, 1), row[i][1]);
    }
    due(15, "live(2, -1, 0)", x.live(2, NONE, 0), 29);
    due(15, "live(2, 28, 0)", x.live(2, 28, 0), 27);
    due(15, "live(2, 29, 0)", x.live(2, 29, 0), NONE);
    due(15, "live(2, -2, 0)", x.live(2, -2, 0), NONE);
    due(15, "live(2, 0, 2)", x.live(2, 0, 2), NONE);
    due(15, "live(2, 0, -1)", x.live(2, 0, -1), NONE);
    due(15, "live(-1, 0, 0)", x.live(-1, 0, 0), NONE);
    due(15, "live(4, -1, 0)", x.live(4, NONE, 0), NONE);
    due(16, "when(2, 0, 0), never", x.when(2, 0, 0), NONE);
    due(16, "when(2, 0, 1)", x.when(2, 0, 1), 0);
    due(16, "when(2, 1, 0)", x.when(2, 1, 0), 0);
    due(16, "when(2, 1, 1)", x.when(2, 1, 1), 3);
    due(16, "when(2, 2, 0)", x.when(2, 2, 0), 3);
    due(16, "when(1, 0, 1)", x.when(1, 0, 1), 2);
    int[][] bad = {{4, 0, 0}, {-1, 0, 0}, {0, 28, 0}, {0, -1, 0}, {0, 0, 2}, {0, 0, -1}};
    for (int[] b : bad) due(16, "when, wrong", x.when(b[0], b[1], b[2]), NONE);
  }

  private static void agesAndWages() {
    BorrowedDays x = under("pays day; pays 0-50 if rain=1; pays holder*100 if owner=3");
    x.lend(3, 1, 2);
    x.lend(0, 1, 2);
    x.rain(2, 1);
    int[] ages = {0, 0, 1, 2, 3, 3};
    int[] wages = {0, 0, 1, 2, 101, 51};
    for (int i = 0; i < ages.length; i++) {
      due(17, "age(2, 1, " + i + ")", x.age(2, 1, i), ages[i]);
      due(18, "wages(2, " + i + ")", x.wages(2, i), wages[i]);
    }
    due(17, "age(2, 1, 224)", x.age(2, 1, 224), 3);
    due(17, "age(0, 1, 224)", x.age(0, 1, 224), 0);
    due(18, "wages(3, 224), a cut of each", x.wages(3, 224), 27 * 99);
    int[][] bad = {{4, 0, 0}, {-1, 0, 0}, {0, 28, 0}, {0, -1, 0}, {0, 0, 225}, {0, 0, -1}};
    for (int[] b : bad) due(17, "age, wrong", x.age(b[0], b[1], b[2]), NONE);
    due(18, "wages(4, 0)", x.wages(4, 0), NOTHING);
    due(18, "wages(-1, 0)", x.wages(-1, 0), NOTHING);
    due(18, "wages(0, 225)", x.wages(0, 225), NOTHING);
    due(18, "wages(0, -1)", x.wages(0, -1), NOTHING);
    x = under("pays 0-1");
    due(18, "wages below 0", x.wages(0, 1), -1);
  }

  private static void gapsAndDebts() {
    BorrowedDays x = new BorrowedDays();
    due(19, "gap(0)", x.gap(0), 0);
    for (int d : new int[] {0, 5, 6, 7, 20, 21, 27}) x.lend(0, d, 1);
    due(19, "gap(0)", x.gap(0), 3);
    x.lend(2, 6, 0);
    due(19, "gap(0), filled by another's", x.gap(0), 2);
    due(19, "gap(1)", x.gap(1), 0);
    due(19, "gap(4)", x.gap(4), NONE);
    due(19, "gap(-1)", x.gap(-1), NONE);
    due(20, "owes(1, 0)", x.owes(1, 0), 7);
    due(20, "owes(0, 1)", x.owes(0, 1), 0);
    due(20, "owes(0, 2)", x.owes(0, 2), 1);
    due(20, "owes(1, 1)", x.owes(1, 1), NONE);
    due(20, "owes(4, 0)", x.owes(4, 0), NONE);
    due(20, "owes(0, -1)", x.owes(0, -1), NONE);
    due(21, "away()", x.away(), 8);
    x.home(0, 5);
    due(21, "away()", x.away(), 7);
    x.terms(0, 1);
    due(21, "away(), one village alone", x.away(), 0);
    x.terms(0, 2);
    for (int d = 0; d < 28; d++) x.lend(0, d, 1);
    due(19, "gap of who holds none", x.gap(0), 28);
    due(15, "live of who holds none", x.live(0, NONE, 0), 0);
    due(15, "its first dawn", x.live(0, 0, 0), NONE);
    due(18, "its wages", x.wages(0, 224), 0);
  }

  private static void ringDue(BorrowedDays x, int... ring) {
    due(22, "ring(-1)", x.ring(NONE), ring.length == 0 ? NONE : ring.length);
    for (int i = 0; i < ring.length; i++) due(22, "ring(" + i + ")", x.ring(i), ring[i]);
    due(22, "ring behind its end", x.ring(ring.length), NONE);
    due(22, "ring(-2)", x.ring(-2), NONE);
  }

  private static void rings() {
    BorrowedDays x = new BorrowedDays();
    x.terms(0, 8);
    ringDue(x);
    // the holder owes the owner: 7 owes 5, 5 owes 6, 6 owes 7
    x.lend(5, 0, 7);
    x.lend(6, 0, 5);
    ringDue(x);
    x.lend(7, 0, 6);
    ringDue(x, 5, 6, 7);
    // 1 owes 4, 4 owes 2, 2 owes 1: as few, and lower as bits
    x.lend(4, 1, 1);
    x.lend(2, 1, 4);
    x.lend(1, 1, 2);
    ringDue(x, 1, 4, 2);
    // 0 owes 7, 7 owes 3, 3 owes 0: lower at first, but not as bits
    x.lend(7, 2, 0);
    x.lend(3, 2, 7);
    x.lend(0, 2, 3);
    ringDue(x, 1, 4, 2);
    x.lend(7, 3, 6);
    x.lend(6, 3, 7);
    ringDue(x, 6, 7);
    x.lend(3, 4, 4);
    x.lend(4, 4, 3);
    ringDue(x, 3, 4);
    x.terms(0, 1);
    ringDue(x);
  }

  private static void eightRing() {
    BorrowedDays x = new BorrowedDays();
    x.terms(0, 8);
    int[] ring = {0, 3, 1, 7, 5, 2, 6, 4};
    for (int i = 0; i < 8; i++) x.lend(ring[(i + 1) % 8], i, ring[i]);
    ringDue(x, ring);
  }

  private static void feasts() {
    BorrowedDays x = under("costs 20; costs 2 if holder=to+1 or to=holder+1");
    x.lend(0, 0, 3);
    x.lend(0, 1, 3);
    x.lend(1, 2, 3);
    due(23, "easter(9, 0)", x.easter(9, 0), 16);
    due(23, "easter(9, 1)", x.easter(9, 1), 9);
    due(23, "easter(9, 2)", x.easter(9, 2), 3);
    int[] takers = {0, 0, 1};
    for (int i = 0; i < 3; i++) {
      due(24, "trade(9, " + i + ", 0)", x.trade(9, i, 0), 3);
      due(24, "trade(9, " + i + ", 1)", x.trade(9, i, 1), takers[i]);
    }
    due(23, "easter(1, 0), more than one copy", x.easter(1, 0), NONE);
    due(23, "easter(0, 0), none of it", x.easter(0, 0), NONE);
    int[][] bad = {{28, 0}, {-1, 0}, {9, 3}, {9, -1}};
    for (int[] b : bad) due(23, "easter, wrong", x.easter(b[0], b[1]), NONE);
    int[][] worse = {{28, 0, 0}, {-1, 0, 0}, {9, 3, 0}, {9, -1, 0}, {9, 0, 2}, {9, 0, -1}, {1, 0, 0}};
    for (int[] b : worse) due(24, "trade, wrong", x.trade(b[0], b[1], b[2]), NONE);
    due(25, "chain(3, 0), by the others", x.chain(3, 0), 6);
    due(25, "chain(0, 2)", x.chain(0, 2), 4);
    due(25, "chain(1, 1)", x.chain(1, 1), 0);
    due(25, "chain(4, 0)", x.chain(4, 0), NONE);
    due(25, "chain(0, -1)", x.chain(0, -1), NONE);
    due(37, "status()", x.status(), 0);
  }

  /** Givers 2, 3 and takers 0, 1, where each giver's own cheapest taker is not the best together. */
  private static void cheapestTogether() {
    BorrowedDays x = under("costs 50; costs 1 if holder=2 and to=0; costs 2 if holder=2 and to=1; costs 4 if holder=3 and to=0; costs 9 if holder=3 and to=1");
    x.lend(0, 0, 2);
    x.lend(1, 1, 3);
    due(23, "easter(5, 0)", x.easter(5, 0), 6);
    due(24, "trade(5, 0, 1)", x.trade(5, 0, 1), 1);
    due(24, "trade(5, 1, 1)", x.trade(5, 1, 1), 0);
    x = new BorrowedDays();
    x.lend(0, 0, 2);
    x.lend(1, 1, 3);
    due(24, "alike: the first as a row", x.trade(5, 0, 1), 0);
    due(24, "alike: the first as a row", x.trade(5, 1, 1), 1);
    due(24, "lowest givers first", x.trade(5, 0, 0), 2);
    due(24, "lowest givers first", x.trade(5, 1, 0), 3);
  }

  private static void feastEdges() {
    BorrowedDays x = new BorrowedDays();
    for (int d = 0; d < 8; d++) x.lend(0, d, 1);
    due(23, "eight go", x.easter(10, 2), 8);
    due(23, "eight go", x.easter(10, 0), 8);
    x.lend(0, 8, 2);
    due(23, "nine must go", x.easter(10, 2), NONE);
    due(23, "nine must go", x.easter(10, 1), NONE);
    due(23, "eight ahead of it, at the day", x.easter(8, 0), NONE);
    due(24, "nine must go", x.trade(10, 0, 0), NONE);
    due(23, "one copy each, not its own", swapped().easter(3, 0), 0);
    x = new BorrowedDays();
    x.lend(0, 20, 1);
    due(23, "only days ahead of it matter", x.easter(19, 2), 0);
    due(23, "only days ahead of it matter", x.easter(21, 2), 1);
    x.terms(0, 1);
    due(23, "one village", x.easter(27, 1), 27);
    due(23, "one village", x.easter(27, 0), 0);
    x = under("costs 0-7");
    x.lend(0, 0, 1);
    due(23, "no cost below 0", x.easter(5, 0), 0);
    due(25, "chain(1, 0)", x.chain(1, 0), 0);
    x = under("costs 700");
    due(25, "no trade above 99", x.chain(1, 0), 99);
    x = under("costs held+owner+day+weekday+rain+price");
    x.lend(0, 0, 1);
    due(25, "held is of who takes, the rest is not told", x.chain(0, 1), 24);
    due(25, "held is of who takes, the rest is not told", x.chain(1, 0), 22);
  }

  private static BorrowedDays swapped() {
    BorrowedDays x = new BorrowedDays();
    x.lend(0, 3, 1);
    x.lend(1, 3, 0);
    return x;
  }

  private static void badDays() {
    BorrowedDays x = under("bars if to=1 and holder=0; bars if to=3 and day=2");
    due(26, "last(0, 1, 0): 0, 2, 1, 3", x.last(0, 1, 0), 3);
    due(26, "last(0, 1, 1)", x.last(0, 1, 1), 3);
    due(26, "last(0, 2, 0): 0, 2, 1", x.last(0, 2, 0), 1);
    due(26, "last(0, 2, 1)", x.last(0, 2, 1), 2);
    due(26, "on paper alone", x.of(0, 1, 0, 0), 0);
    due(26, "on paper alone", x.count(4), 0);
    x = under("bars");
    x.lend(0, 0, 1);
    due(26, "last, all are barred", x.last(2, 5, 0), 2);
    due(26, "last, all are barred", x.last(2, 5, 1), 0);
    x = new BorrowedDays();
    x.lend(0, 5, 2);
    due(26, "begun with who holds it: 2, 0, 1, 3", x.last(0, 5, 0), 3);
    int[][] bad = {{4, 0, 0}, {-1, 0, 0}, {0, 28, 0}, {0, -1, 0}, {0, 0, 2}, {0, 0, -1}};
    for (int[] b : bad) due(26, "last, wrong", x.last(b[0], b[1], b[2]), NONE);
  }

  private static void prices() {
    BorrowedDays x = under("wants if weekday=2 and price<13; sells if weekday=5");
    due(27, "price(-1), 5 falls to 1", x.price(NONE), 10);
    due(27, "price(2)", x.price(2), 13);
    due(27, "price(5)", x.price(5), 1);
    due(27, "price(0)", x.price(0), 10);
    x.terms(1, 60);
    due(27, "still not", x.price(NONE), 51);
    due(27, "price(5) behind 50 rounds", x.price(5), 10);
    due(27, "price(2)", x.price(2), 60);
    x.terms(1, 51);
    due(27, "1 behind 50 rounds, which all changed", x.price(NONE), 51);
    x.terms(1, 50);
    due(27, "the 50th changed nothing", x.price(NONE), 50);
    due(27, "price(7)", x.price(7), NONE);
    due(27, "price(-2)", x.price(-2), NONE);
    x = under("wants if to<2; sells if holder=3 and price>11");
    due(27, "two want, one sells", x.price(0), 60);
    x.terms(1, 98);
    due(27, "99 at most", x.price(0), 99);
    due(27, "99 at most", x.price(NONE), 2);
    x = under("wants if to=0; sells if holder=0");
    due(27, "as many sell", x.price(NONE), 1);
    x = under("wants if price<10; sells if price>9");
    due(27, "up and down", x.price(NONE), 51);
    due(27, "up and down", x.price(3), 10);
    x = under("wants if held>28; sells if held>0 or to>0-1 or owner>0-1 or day>0-1 or rain>0-1");
    due(27, "nobody has more", x.price(NONE), 1);
    x.lend(0, 0, 1);
    due(27, "one has more", x.price(6), 60);
  }

  private static void deeds() {
    BorrowedDays x = new BorrowedDays();
    due(28, "deed(0, 3, 3)", x.deed(0, 3, 3), 1);
    due(28, "deed(1, 3, 4)", x.deed(1, 3, 4), 2);
    due(28, "deed(0, 3, 3) again", x.deed(0, 3, 3), 3);
    due(28, "deed(0, 223, 27)", x.deed(0, 223, 27), 4);
    due(30, "forged(-1)", x.forged(NONE), 2);
    due(30, "forged(0)", x.forged(0), 1);
    due(30, "forged(1)", x.forged(1), 3);
    due(30, "forged(2)", x.forged(2), NONE);
    due(30, "forged(-2)", x.forged(-2), NONE);
    due(28, "deed(9, 224, 0)", x.deed(9, 224, 0), -1);
    due(28, "deed(0, -1, 0)", x.deed(0, -1, 0), -1);
    due(28, "deed(0, 0, 28)", x.deed(0, 0, 28), -1);
    due(28, "deed(0, 0, -1)", x.deed(0, 0, -1), -1);
    due(28, "deed(4, 0, 0)", x.deed(4, 0, 0), -2);
    due(28, "deed(-1, 0, 0)", x.deed(-1, 0, 0), -2);
    due(29, "burn(4)", x.burn(4), -2);
    due(29, "burn(-1)", x.burn(-1), -2);
    due(29, "burn(0)", x.burn(0), 3);
    due(30, "forged(0), moved up", x.forged(0), 0);
    due(30, "forged(1), moved up", x.forged(1), 2);
    for (int i = 4; i <= 10; i++) due(28, "deed", x.deed(2, i, i), i);
    due(28, "deed, the 11th", x.deed(2, 0, 0), -5);
    due(28, "deed, the 11th, no village", x.deed(4, 0, 0), -2);
    due(28, "deed, the 11th, no dawn", x.deed(4, 224, 0), -1);
    due(36, "count(3)", x.count(3), 10);
    due(29, "burn(9)", x.burn(9), 9);
    due(36, "count(9)", x.count(9), 1);
  }

  private static void explanations() {
    BorrowedDays x = new BorrowedDays();
    due(31, "explains(0) without deeds", x.explains(0), 336);
    x.deed(1, 6, 5);
    due(30, "forged(-1)", x.forged(NONE), 1);
    due(31, "a day 0 .. 5 more for village 1", x.explains(0), 18);
    due(31, "explains(1)", x.explains(1), 0);
    due(31, "explains(2)", x.explains(2), 0);
    due(31, "explains(3)", x.explains(3), 1);
    x.deed(3, 4, 5);
    due(31, "that came from 3, of days 0 .. 4", x.explains(0), 5);
    due(31, "explains(1)", x.explains(1), 3);
    due(31, "explains(2)", x.explains(2), 0);
    due(31, "explains(3)", x.explains(3), 1);
    x.deed(1, 3, 3);
    due(31, "of days 3, 4", x.explains(0), 2);
    due(31, "explains(2)", x.explains(2), 3);
    x.deed(3, 3, 3);
    due(31, "of day 4", x.explains(0), 1);
    due(31, "explains(2)", x.explains(2), 4);
    x.deed(2, 0, 1);
    due(31, "none", x.explains(0), 0);
    for (int w = 1; w <= 3; w++) due(31, "none", x.explains(w), NONE);
    due(31, "explains(4)", x.explains(4), NONE);
    due(31, "explains(-1)", x.explains(-1), NONE);
    due(31, "on paper alone", x.away(), 0);
    x = under("bars");
    due(31, "laws do not matter", x.explains(0), 336);
    x.terms(0, 1);
    due(31, "one village: there is no other", x.explains(0), 0);
  }

  private static void years() {
    BorrowedDays x = new BorrowedDays();
    due(33, "drawn ahead of any year", x.drawn(0, 0), NONE);
    // 12345: owner 1; 12345 * 1103 + 12345 is 13628880, 628841 by 1000003: day 17;
    // 628841 * 1103 + 12345 is 693623968, 621889 by 1000003: to 1. It is there.
    due(32, "year(0, 1)", x.year(0, 1), 0);
    due(33, "drawn(1, 0)", x.drawn(1, 0), 28);
    due(33, "drawn(1, 1)", x.drawn(1, 1), 0);
    // 17860: owner 0; 711868: day 24; 200394: to 2
    due(32, "year(5, 1)", x.year(5, 1), 1);
    due(33, "drawn(0, 0)", x.drawn(0, 0), 27);
    due(33, "drawn(0, 1)", x.drawn(0, 1), 1);
    due(33, "drawn(2, 0)", x.drawn(2, 0), 29);
    due(33, "drawn(2, 1)", x.drawn(2, 1), 0);
    due(32, "on paper alone", x.away(), 0);
    due(32, "on paper alone", x.count(4), 0);
    int[][] bad = {{-1, 1}, {1000001, 1}, {0, 0}, {0, 61}, {0, -1}};
    for (int[] b : bad) due(32, "year, wrong", x.year(b[0], b[1]), -1);
    due(37, "status()", x.status(), -1);
    due(33, "the latest is still there", x.drawn(2, 0), 29);
    due(33, "drawn(4, 0)", x.drawn(4, 0), NONE);
    due(33, "drawn(-1, 0)", x.drawn(-1, 0), NONE);
    due(33, "drawn(0, 2)", x.drawn(0, 2), NONE);
    due(33, "drawn(0, -1)", x.drawn(0, -1), NONE);
    due(32, "year(1000000, 60)", x.year(1000000, 60) > 0 ? 1 : 0, 1);
    x = new BorrowedDays();
    x.year(5, 1);
    x.terms(0, 1);
    due(33, "drawn(2, 0), of a village that went later", x.drawn(2, 0), 29);
    due(33, "drawn(0, 1), when its day's holder went later", x.drawn(0, 1), 1);
    x.terms(0, 8);
    due(33, "drawn(2, 0), of a village that went and came", x.drawn(2, 0), 29);
    due(33, "drawn(4, 0), of a village that came later", x.drawn(4, 0), NONE);
    due(33, "drawn(7, 1), of a village that came later", x.drawn(7, 1), NONE);
    x.terms(0, 2);
    due(32, "year(0, 1) of two villages", x.year(0, 1), 0);
    x.terms(0, 4);
    due(33, "drawn(1, 0)", x.drawn(1, 0), 28);
    due(33, "drawn(2, 0), not of the latest year", x.drawn(2, 0), NONE);
    x = under("bars");
    due(32, "all barred", x.year(5, 60), 0);
    x = under("bars if held>27");
    due(32, "held is that on paper, too", x.year(5, 1), 0);
  }

  private static void images() {
    BorrowedDays x = new BorrowedDays();
    due(34, "image(2)", x.image(2), -1);
    due(34, "image(-1)", x.image(-1), -1);
    due(35, "back(2)", x.back(2), -1);
    due(35, "back(-1)", x.back(-1), -1);
    due(35, "back(0)", x.back(0), -2);
    due(34, "image(1)", x.image(1), 0);
    law(x, "pays 5");
    x.force(0);
    x.lend(0, 1, 2);
    x.rain(4, 1);
    x.deed(0, 0, 0);
    x.terms(1, 44);
    due(34, "image(0)", x.image(0), 0);
    law(x, "pays");
    x.feed(0, 0, 0, 0, 0);
    x.end(6);
    x.year(5, 1);
    due(35, "back(1)", x.back(1), 0);
    int[] first = {4, 0, 0, 0, 0, 6, 4, 1, 0, 0, 1, NONE, 10};
    for (int i = 0; i < first.length; i++) due(35, "count(" + i + ")", x.count(i), first[i]);
    due(35, "of(0, 1)", x.of(0, 1, 0, 0), 0);
    due(35, "the fault stays", x.fault(), 4);
    due(35, "the year stays", x.drawn(2, 0), 30);
    x.row();
    x.end(0);
    due(8, "law() in the place of another one", law(x, "pays 8"), 0);
    x.force(0);
    due(35, "pays 8", x.of(0, 0, 0, 2), 8);
    due(35, "back(0)", x.back(0), 0);
    int[] second = {4, 1, 1, 1, 1, 0, 4, 1, 0, 0, 1, 0, 44};
    for (int i = 0; i < second.length; i++) due(35, "count(" + i + ")", x.count(i), second[i]);
    due(35, "pays 5", x.of(0, 0, 0, 2), 5);
    due(35, "of(0, 1)", x.of(0, 1, 0, 0), 2);
    due(35, "undo()", x.undo(), 0);
    due(35, "back(0) again, images stay", x.back(0), 0);
    due(35, "of(0, 1)", x.of(0, 1, 0, 0), 2);
    due(35, "the fog stays", x.fog(), 0);
  }

  private static void fogAndVillagesBehindBack() {
    BorrowedDays x = new BorrowedDays();
    x.image(0);
    x.feed(-1, 0, 0, 0, 0);
    x.row();
    x.terms(0, 8);
    x.lend(7, 0, 6);
    due(35, "back(0)", x.back(0), 0);
    due(35, "fog()", x.fog(), 4);
    due(35, "count(0)", x.count(0), 4);
    due(35, "away()", x.away(), 0);
    due(2, "terms(0, 8)", x.terms(0, 8), 4);
    due(2, "of(7, 0)", x.of(7, 0, 0, 0), 7);
  }

  private static void counts() {
    BorrowedDays x = new BorrowedDays();
    due(36, "count(13)", x.count(13), NONE);
    due(36, "count(-1)", x.count(-1), NONE);
    due(36, "count(min)", x.count(Integer.MIN_VALUE), NONE);
    x.rain(99, 0);
    due(37, "status()", x.status(), -1);
    x.burn(0);
    due(37, "status()", x.status(), -2);
    x.undo();
    due(37, "status()", x.status(), -3);
    x.row();
    due(37, "status()", x.status(), -6);
    x.live(99, 0, 0);
    x.end(77);
    x.gap(99);
    due(37, "status(): others do not matter", x.status(), -6);
    for (int i = 0; i < 5; i++) due(36, "count(" + (6 + i) + ")", x.count(6 + i), i == 3 ? 0 : 1);
    x.force(NONE);
    due(37, "status(): it was not", x.status(), 0);
    x.deed(0, 0, 99);
    x.image(0);
    due(37, "status(): it was not", x.status(), 0);
    x.year(0, 99);
    x.back(0);
    due(37, "status(): it was not", x.status(), 0);
    due(36, "count(6), images do not keep it", x.count(6), 3);
  }

  private static void anyNumber() {
    int[] odd = {Integer.MIN_VALUE, -225, -1, 0, 7, 8, 27, 28, 224, 1 << 24, 1 << 30, Integer.MAX_VALUE};
    BorrowedDays x = under("pays held/to; costs day*holder; bars if to/owner>price; wants; sells if weekday=1");
    for (int a : odd) for (int b : odd) for (int c : odd) {
      x.of(a, b, c, 0); x.of(a, b, c, 1); x.of(a, b, c, 2); x.of(0, b, 0, c);
      x.lend(a, b, c); x.home(a, b); x.live(a, b, c); x.when(a, b, c); x.age(a, b, c); x.wages(a, b);
      x.gap(a); x.owes(a, b); x.ring(a); x.easter(a, b); x.trade(a, b, c); x.chain(a, b); x.last(a, b, c);
      x.price(a); x.deed(a, b, c); x.burn(a); x.forged(a); x.explains(a); x.year(a, b); x.drawn(a, b);
      x.image(a); x.back(a); x.count(a); x.force(a); x.end(a); x.rain(a, b); x.terms(a, b);
    }
    due(37, "status() is one of the refusals, or 0", x.status() <= 0 && x.status() >= -6 ? 0 : 1, 0);
  }

  public static void main(String[] args) {
    newObject();
    theTerms();
    villagesComeAndGo();
    rainyDays();
    theTape();
    rowsOfRain();
    lawsThatCanBe();
    faults();
    lawsFull();
    forces();
    sums();
    tests();
    copies();
    loans();
    undoneKept();
    rows();
    agesAndWages();
    gapsAndDebts();
    rings();
    eightRing();
    feasts();
    cheapestTogether();
    feastEdges();
    badDays();
    prices();
    deeds();
    explanations();
    years();
    images();
    fogAndVillagesBehindBack();
    counts();
    anyNumber();
    System.out.println(wrong == 0 ? "all promises are kept" : wrong + " answers are not as due");
    if (wrong != 0) System.exit(1);
  }
}
