/** The bounds that the document names under 'Terms', I: villages, days, terms, what a call is refused by. */
public final class VillageBounds {
  private static final int NONE = -1;
  private static final int NOTHING = -1000000;

  private static void due(String what, int got, int want) {
    Checks.due(what, got, want);
  }

  // ---- villages ----

  private static void villageNumbers() {
    Checks.says("VILLAGES 0 .. 7 (VILLAGES of the TERMS tell how many).");
    for (int n = 1; n <= 8; n++) {
      BorrowedDays x = Checks.villages(n);
      for (int village : new int[] {0, n - 1}) isThere(x, village, n);
      for (int village : new int[] {n, n + 1, 8, NONE, Integer.MIN_VALUE, Integer.MAX_VALUE}) {
        isNotThere(x, village, "village " + village + " of " + n);
      }
    }
  }

  private static void isThere(BorrowedDays x, int v, int n) {
    String who = "village " + v + " of " + n;
    due(who + " as owner, of", x.of(v, 3, 0, 0), v);
    due(who + " as to, of", x.of(0, 3, v, 1), 0);
    due(who + ", lend from it", x.lend(v, 3, 0), v == 0 ? -3 : v);
    due(who + ", home", x.home(v, 3), v == 0 ? -3 : 0);
    due(who + ", lend to it", x.lend(0, 3, v), v == 0 ? -3 : 0);
    due(who + ", home from it", x.home(0, 3), v == 0 ? -3 : v);
    due(who + ", live", x.live(v, NONE, 0), 28);
    due(who + ", live on a dawn", x.live(v, 27, 1), v);
    due(who + ", when", x.when(v, 5, 0), 5);
    due(who + ", how often", x.when(v, 5, 1), 1);
    due(who + ", age", x.age(v, 5, 6), 1);
    due(who + ", wages", x.wages(v, 28), 28);
    due(who + ", gap", x.gap(v), 0);
    due(who + " owes", x.owes(v, 0), v == 0 ? NONE : 0);
    due(who + " is owed", x.owes(0, v), v == 0 ? NONE : 0);
    due(who + ", chain from it", x.chain(v, 0), v == 0 ? 0 : 1);
    due(who + ", chain to it", x.chain(0, v), v == 0 ? 0 : 1);
    due(who + ", last", x.last(v, 3, 1), n - 1);
    due(who + ", deed", x.deed(v, 0, 0), 1);
    x.burn(0);
  }

  private static void isNotThere(BorrowedDays x, int v, String who) {
    for (int what = 0; what <= 2; what++) due(who + " as owner, of", x.of(v, 3, 0, what), NOTHING);
    due(who + " as to, of", x.of(0, 3, v, 1), NOTHING);
    due(who + ", lend from it", x.lend(v, 3, 0), -2);
    due(who + ", lend to it", x.lend(0, 3, v), -2);
    due(who + ", home", x.home(v, 3), -2);
    due(who + ", live", x.live(v, NONE, 0), NONE);
    due(who + ", live on a dawn", x.live(v, 0, 0), NONE);
    due(who + ", when", x.when(v, 5, 0), NONE);
    due(who + ", how often", x.when(v, 5, 1), NONE);
    due(who + ", age", x.age(v, 5, 6), NONE);
    due(who + ", wages", x.wages(v, 28), NOTHING);
    due(who + ", gap", x.gap(v), NONE);
    due(who + " owes", x.owes(v, 0), NONE);
    due(who + " is owed", x.owes(0, v), NONE);
    due(who + ", chain from it", x.chain(v, 0), NONE);
    due(who + ", chain to it", x.chain(0, v), NONE);
    due(who + ", chain to itself", x.chain(v, v), NONE);
    for (int what = 0; what <= 1; what++) due(who + ", last", x.last(v, 3, what), NONE);
    due(who + ", deed", x.deed(v, 0, 0), -2);
  }

  private static void howMany() {
    Checks.says("0 VILLAGES 1 .. 8 (4 at first;");
    BorrowedDays x = new BorrowedDays();
    due("at first", x.count(0), 4);
    int was = 4;
    for (int n : new int[] {1, 2, 7, 8}) {
      due("terms(0, " + n + ")", x.terms(0, n), was);
      due("status", x.status(), 0);
      due("how many now", x.count(0), n);
      was = n;
    }
    for (int n : new int[] {0, 9, NONE, Integer.MIN_VALUE, Integer.MAX_VALUE}) {
      due("terms(0, " + n + ")", x.terms(0, n), -1);
      due("status", x.status(), -1);
      due("how many now", x.count(0), 8);
    }
    due("a term below the first", x.terms(-1, 4), -1);
    due("a term above the last", x.terms(2, 4), -1);
    due("how many now", x.count(0), 8);
    due("the price now", x.count(12), 10);
  }

  private static void thePrice() {
    Checks.says("1 PRICE 1 .. 99 (10).");
    BorrowedDays x = new BorrowedDays();
    int was = 10;
    for (int p : new int[] {1, 2, 98, 99}) {
      due("terms(1, " + p + ")", x.terms(1, p), was);
      due("the price now", x.count(12), p);
      due("the price of a weekday", x.price(0), p);
      was = p;
    }
    for (int p : new int[] {0, 100, NONE, Integer.MIN_VALUE, Integer.MAX_VALUE}) {
      due("terms(1, " + p + ")", x.terms(1, p), -1);
      due("the price now", x.count(12), 99);
    }
    due("how many villages now", x.count(0), 4);
  }

  private static void whoComes() {
    Checks.says("all COPIES of a VILLAGE that comes are at home,");
    BorrowedDays x = Checks.villages(1);
    for (int n = 2; n <= 8; n++) {
      x.terms(0, n);
      due("copies of the one that came", x.live(n - 1, NONE, 0), 28);
      due("away, " + n + " villages", x.away(), 0);
    }
    x = Checks.villages(3);
    x.lend(2, 0, 0);
    x.lend(2, 27, 1);
    x.terms(0, 2);
    x.terms(0, 3);
    due("the first day of one that went and came", x.of(2, 0, 0, 0), 2);
    due("the last day of one that went and came", x.of(2, 27, 0, 0), 2);
    due("away", x.away(), 0);
    x = Checks.villages(2);
    x.lend(0, 0, 1);
    x.terms(0, 8);
    due("those of the others stay when one comes", x.of(0, 0, 0, 0), 1);
  }

  private static void whoGoes() {
    Checks.says("those that one that goes holds go home;");
    BorrowedDays x = Checks.villages(4);
    x.lend(0, 0, 3);
    x.lend(1, 27, 3);
    x.lend(0, 5, 2);
    x.lend(3, 6, 0);
    x.terms(0, 3);
    due("the first day that it held", x.of(0, 0, 0, 0), 0);
    due("the last day that it held", x.of(1, 27, 0, 0), 1);
    due("a day that one that stays holds", x.of(0, 5, 0, 0), 2);
    due("what village 0 holds: none of one that went", x.live(0, NONE, 0), 27);
    due("away", x.away(), 1);
    x.terms(0, 1);
    due("all but one go", x.away(), 0);
    due("what the last one holds", x.live(0, NONE, 0), 28);
    x = Checks.allWith(new BorrowedDays(), 7);
    x.terms(0, 7);
    due("one that held all goes", x.away(), 0);
    x = Checks.allWith(new BorrowedDays(), 0);
    x.terms(0, 1);
    due("one that held all stays alone", x.live(0, NONE, 0), 28);
  }

  private static void noDeedsNoLoans() {
    Checks.says("what is told of DEEDS, LOANS is none then)");
    for (int n : new int[] {1, 3, 4, 5, 8}) {
      BorrowedDays x = withDeedAndLoan();
      due("terms(0, " + n + ")", x.terms(0, n), 4);
      due("deeds", x.count(3), 0);
      due("what can be undone", x.count(4), 0);
      due("forged", x.forged(NONE), 0);
      due("the first that is forged", x.forged(0), NONE);
      due("burn", x.burn(0), -2);
      due("undo", x.undo(), -3);
    }
    int[][] others = {{0, 0}, {0, 9}, {1, 1}, {1, 99}, {1, 100}, {2, 1}};
    for (int[] o : others) {
      BorrowedDays x = withDeedAndLoan();
      x.terms(o[0], o[1]);
      due("deeds behind terms(" + o[0] + ", " + o[1] + ")", x.count(3), 1);
      due("loans behind terms(" + o[0] + ", " + o[1] + ")", x.count(4), 1);
    }
  }

  private static BorrowedDays withDeedAndLoan() {
    BorrowedDays x = new BorrowedDays();
    x.lend(0, 0, 1);
    x.deed(0, 0, 0);
    due("the deed is forged", x.forged(NONE), 1);
    return x;
  }

  // ---- days ----

  private static void dayNumbers() {
    Checks.says("DAYS 0 .. 27;");
    BorrowedDays x = new BorrowedDays();
    for (int day : new int[] {0, 1, 26, 27}) isDay(x, day);
    for (int day : new int[] {NONE, 28, 29, Integer.MIN_VALUE, Integer.MAX_VALUE}) isNoDay(x, day, "day " + day);
    x.lend(0, 0, 1);
    due("who gives for Easter on day 27", x.trade(27, 0, 0), 1);
    due("who gives for Easter on day 28", x.trade(28, 0, 0), NONE);
    due("who gives for Easter on day -1", x.trade(NONE, 0, 0), NONE);
    x.undo();
    x.lend(0, 27, 1);
    due("none gives for Easter on day 26", x.trade(26, 0, 0), NONE);
  }

  private static void isDay(BorrowedDays x, int d) {
    String day = "day " + d;
    due(day + ", rain", x.rain(d, 1), 0);
    due(day + ", rain no more", x.rain(d, 0), 1);
    due(day + ", of", x.of(1, d, 0, 0), 1);
    due(day + ", barred", x.of(1, d, 0, 1), 0);
    due(day + ", pay", x.of(1, d, 0, 2), 1);
    due(day + ", lend", x.lend(1, d, 0), 1);
    due(day + ", home", x.home(1, d), 0);
    due(day + ", when", x.when(1, d, 0), d);
    due(day + ", how often", x.when(1, d, 1), 1);
    due(day + ", age", x.age(1, d, 28), 1);
    due(day + ", cost of Easter", x.easter(d, 0), 0);
    due(day + ", dawn of Easter", x.easter(d, 1), d);
    due(day + ", copies that go", x.easter(d, 2), 0);
    due(day + ", last", x.last(1, d, 1), 3);
    due(day + ", deed", x.deed(1, d, d), 1);
    due(day + ", forged", x.forged(NONE), 0);
    x.burn(0);
  }

  private static void isNoDay(BorrowedDays x, int d, String day) {
    due(day + ", rain", x.rain(d, 1), -1);
    due(day + ", no rain", x.rain(d, 0), -1);
    for (int what = 0; what <= 2; what++) {
      due(day + ", of", x.of(1, d, 0, what), NOTHING);
      due(day + ", Easter", x.easter(d, what), NONE);
    }
    due(day + ", lend", x.lend(1, d, 0), -1);
    due(day + ", home", x.home(1, d), -1);
    for (int what = 0; what <= 1; what++) {
      due(day + ", when", x.when(1, d, what), NONE);
      due(day + ", last", x.last(1, d, what), NONE);
      due(day + ", trade", x.trade(d, 0, what), NONE);
    }
    due(day + ", age", x.age(1, d, 28), NONE);
    due(day + ", deed", x.deed(1, 0, d), -1);
  }

  private static void weekdays() {
    Checks.says("a WEEKDAY of a DAY is DAY modulo 7;");
    BorrowedDays x = Checks.under("pays weekday");
    for (int day = 0; day < 28; day++) due("weekday of day " + day, x.of(0, day, 0, 2), day % 7);
    x = Checks.under("bars if weekday=0");
    for (int day : new int[] {0, 7, 14, 21}) {
      due("day " + day, x.of(0, day, 1, 1), 1);
      due("the day behind " + day, x.of(0, day + 1, 1, 1), 0);
      due("the sixth day behind " + day, x.of(0, day + 6, 1, 1), 0);
    }
  }

  private static void noRainAtFirst() {
    Checks.says("RAINY or not (at first).");
    BorrowedDays x = Checks.under("pays rain+5");
    due("rainy days", x.count(1), 0);
    for (int day = 0; day < 28; day++) due("rain on day " + day, x.of(0, day, 0, 2), 5);
    for (int day = 0; day < 28; day++) due("it was not rainy", x.rain(day, 1), 0);
    due("all days are rainy", x.count(1), 28);
    for (int day = 0; day < 28; day++) due("rain on day " + day, x.of(0, day, 0, 2), 6);
  }

  private static void oneHolder() {
    Checks.says("each COPY is held by one VILLAGE (its OWNER at first).");
    BorrowedDays x = Checks.villages(8);
    for (int owner = 0; owner < 8; owner++) for (int day = 0; day < 28; day++) due("of", x.of(owner, day, 0, 0), owner);
    x = Checks.allWith(new BorrowedDays(), 3);
    due("one holds all", x.live(3, NONE, 0), 224);
    for (int v = 0; v < 8; v++) if (v != 3) due("the others hold none", x.live(v, NONE, 0), 0);
    due("away", x.away(), 196);
  }

  private static void eachCopyAlone() {
    Checks.says("Each VILLAGE has a COPY of each DAY;");
    for (int owner : new int[] {0, 1, 3}) {
      for (int day : new int[] {0, 1, 27}) {
        BorrowedDays x = Checks.under("bars if owner=" + owner + " and day=" + day + "; pays 0; pays holder+1 if owner=" + owner + " and day=" + day);
        for (int o : new int[] {0, 1, 3}) for (int d : new int[] {0, 1, 26, 27}) isItself(x, o, d, o == owner && d == day);
      }
    }
  }

  private static void isItself(BorrowedDays x, int owner, int day, boolean is) {
    String copy = "copy " + owner + ", " + day;
    due(copy + ", pay", x.of(owner, day, 0, 2), is ? owner + 1 : 0);
    due(copy + ", barred", x.of(owner, day, 2, 1), is ? 1 : 0);
    due(copy + ", last", x.last(owner, day, 1), is ? 0 : 3);
    due(copy + ", lend", x.lend(owner, day, 2), is ? -3 : owner);
    due(copy + ", pay where it is", x.of(owner, day, 0, 2), is ? owner + 1 : 0);
  }

  // ---- what a call is refused by ----

  private static void firstReason() {
    Checks.says("The first of these in that order.");
    BorrowedDays x = Checks.under("bars");
    due("lend: no day, no owner, no to", x.lend(4, 28, 4), -1);
    due("lend: no day, barred", x.lend(0, 28, 1), -1);
    due("lend: no day, it is there", x.lend(0, -1, 0), -1);
    due("lend: no owner, barred", x.lend(4, 27, 1), -2);
    due("lend: no to, barred", x.lend(0, 27, 4), -2);
    due("lend: barred", x.lend(0, 27, 1), -3);
    due("lend: it is there, barred", x.lend(0, 27, 0), -3);
    due("home: no day, no owner", x.home(4, 28), -1);
    due("home: no day, at home", x.home(0, 28), -1);
    due("home: no owner", x.home(4, 27), -2);
    due("home: at home", x.home(0, 27), -3);
    due("back: no number, none was kept", x.back(2), -1);
    due("back: none was kept", x.back(1), -2);
    for (int i = 0; i < 10; i++) x.deed(0, i, i);
    due("deed: no dawn, no village, no room", x.deed(4, 224, 0), -1);
    due("deed: no day, no village, no room", x.deed(4, 0, 28), -1);
    due("deed: no dawn, no room", x.deed(0, 224, 0), -1);
    due("deed: no village, no room", x.deed(4, 0, 0), -2);
    due("deed: no room", x.deed(0, 0, 0), -5);
    for (int i = 1; i < 6; i++) Checks.law(x, "bars");
    due("law: no room, no text that can be", Checks.law(x, "x"), -5);
    int[] counts = {9, 5, 3, 2, 0};
    for (int i = 0; i < 5; i++) due("count(" + (6 + i) + ")", x.count(6 + i), counts[i]);
  }

  private static final int REFUSED_CALLS = 15;

  /** What an object tells of its state, as far as a call that is refused must leave it alone. */
  private static String picture(BorrowedDays x) {
    StringBuilder s = new StringBuilder();
    for (int what : new int[] {0, 1, 2, 3, 4, 11, 12}) s.append(x.count(what)).append(' ');
    for (int owner = 0; owner < 4; owner++) for (int day = 0; day < 28; day++) s.append(x.of(owner, day, 0, 0)).append(' ');
    for (int v = 0; v < 4; v++) s.append(x.drawn(v, 0)).append(' ').append(x.drawn(v, 1)).append(' ');
    return s.append(x.fog()).append(' ').append(x.forged(NONE)).append(' ').append(x.explains(0)).toString();
  }

  private static int refusedCall(BorrowedDays x, int k) {
    switch (k) {
      case 0: return x.terms(0, 9);
      case 1: return x.terms(1, 100);
      case 2: return x.rain(28, 1);
      case 3: return x.rain(0, 2);
      case 4: return x.row();
      case 5: return x.law();
      case 6: return x.force(1);
      case 7: return x.lend(0, 0, 1);
      case 8: return x.lend(0, 1, 4);
      case 9: return x.home(3, 3);
      case 10: return x.deed(0, 224, 0);
      case 11: return x.burn(2);
      case 12: return x.year(0, 61);
      case 13: return x.image(2);
      default: return x.back(1);
    }
  }

  private static void refusedChangesNothing() {
    Checks.says("REFUSED by: -1 a number that can't be;");
    int[] due = {-1, -1, -1, -1, -6, -6, -2, -3, -2, -3, -1, -2, -1, -1, -2};
    for (int k = 0; k < REFUSED_CALLS; k++) {
      BorrowedDays x = Checks.under("pays 3");
      x.lend(0, 0, 1);
      x.lend(2, 27, 0);
      x.deed(0, 0, 0);
      x.deed(1, 0, 0);
      x.rain(5, 1);
      x.year(5, 3);
      x.terms(1, 20);
      String before = picture(x);
      due("refused call " + k, refusedCall(x, k), due[k]);
      due("refused call " + k + " left all as it was", picture(x).equals(before) ? 1 : 0, 1);
      due("status of refused call " + k, x.status(), due[k]);
    }
  }

  public static void main(String[] args) {
    villageNumbers();
    howMany();
    thePrice();
    whoComes();
    whoGoes();
    noDeedsNoLoans();
    dayNumbers();
    weekdays();
    noRainAtFirst();
    oneHolder();
    eachCopyAlone();
    firstReason();
    refusedChangesNothing();
    Checks.end();
  }
}
