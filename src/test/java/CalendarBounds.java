/** The bounds that the document names under 'Terms', III and IV: rows, debts, Easter, prices, deeds, years, images. */
public final class CalendarBounds {
  private static final int NONE = -1;
  private static final int NOTHING = -1000000;

  private static void due(String what, int got, int want) {
    Checks.due(what, got, want);
  }

  // ---- rows ----

  private static void rowOfAll() {
    Checks.says("The ROW of a VILLAGE are all COPIES it holds, by DAYS, of one DAY by OWNERS: it lives through one on each DAWN 0, 1 ..");
    BorrowedDays x = Checks.allWith(new BorrowedDays(), 3);
    int[] dawns = {0, 1, 7, 8, 15, 16, 215, 216, 222, 223};
    for (int dawn : dawns) {
      due("day on dawn " + dawn, x.live(3, dawn, 0), dawn / 8);
      due("owner on dawn " + dawn, x.live(3, dawn, 1), dawn % 8);
    }
    due("day on dawn 224", x.live(3, 224, 0), NONE);
    due("owner on dawn 224", x.live(3, 224, 1), NONE);
    due("day 0 first", x.when(3, 0, 0), 0);
    due("day 27 first", x.when(3, 27, 0), 216);
    due("day 27, how often", x.when(3, 27, 1), 8);
    due("an empty row", x.live(0, NONE, 0), 0);
    due("an empty row's first dawn", x.live(0, 0, 0), NONE);
    due("a day of an empty row", x.when(0, 0, 0), NONE);
    due("a day of an empty row, how often", x.when(0, 0, 1), 0);
  }

  private static void ages() {
    Checks.says("AGE by a DAY, at a DAWN: how many COPIES of it are ahead of that DAWN.");
    BorrowedDays x = Checks.allWith(new BorrowedDays(), 3);
    int[][] first = {{0, 0}, {1, 1}, {7, 7}, {8, 8}, {9, 8}, {224, 8}};
    for (int[] f : first) due("by day 0 at dawn " + f[0], x.age(3, 0, f[0]), f[1]);
    int[][] last = {{0, 0}, {216, 0}, {217, 1}, {223, 7}, {224, 8}};
    for (int[] l : last) due("by day 27 at dawn " + l[0], x.age(3, 27, l[0]), l[1]);
    due("of an empty row", x.age(0, 0, 224), 0);
    x = new BorrowedDays();
    due("behind the end of a row", x.age(0, 27, 28), 1);
    due("at its last dawn", x.age(0, 27, 27), 0);
    due("far behind its end", x.age(0, 27, 224), 1);
  }

  private static void wagesOfAll() {
    Checks.says("WAGES: what those ahead of it PAY together.");
    BorrowedDays x = Checks.allWith(Checks.under("pays 99"), 3);
    int[] dawns = {0, 1, 223, 224};
    for (int dawn : dawns) due("at dawn " + dawn, x.wages(3, dawn), 99 * dawn);
    due("of an empty row", x.wages(0, 224), 0);
    x = Checks.allWith(Checks.under("pays 0-99"), 3);
    for (int dawn : dawns) due("below 0 at dawn " + dawn, x.wages(3, dawn), -99 * dawn);
    x = Checks.under("pays day");
    due("ahead of day 1", x.wages(0, 1), 0);
    due("ahead of day 2", x.wages(0, 2), 1);
    due("all", x.wages(0, 28), 378);
    due("behind the end of a row", x.wages(0, 29), 378);
  }

  private static void gaps() {
    Checks.says("GAP: the most DAYS one behind the other of which it holds none.");
    BorrowedDays x = new BorrowedDays();
    due("none", x.gap(0), 0);
    x.lend(0, 0, 1);
    due("the first day", x.gap(0), 1);
    x.lend(0, 27, 1);
    due("the last day is not in front of the first", x.gap(0), 1);
    x.lend(0, 26, 1);
    due("the last two", x.gap(0), 2);
    x.lend(0, 1, 1);
    x.lend(0, 2, 1);
    due("the first three", x.gap(0), 3);
    for (int day = 3; day < 25; day++) x.lend(0, day, 1);
    due("all but day 25", x.gap(0), 25);
    x.lend(0, 25, 1);
    due("all days", x.gap(0), 28);
    x.lend(1, 27, 0);
    due("all but the last", x.gap(0), 27);
    x.lend(1, 13, 0);
    due("13 on each side", x.gap(0), 13);
  }

  // ---- debts ----

  private static void debts() {
    Checks.says("A VILLAGE OWES another one as many DAYS as it holds COPIES of it.");
    BorrowedDays x = new BorrowedDays();
    due("none", x.owes(1, 0), 0);
    for (int day = 0; day < 28; day++) {
      x.lend(0, day, 1);
      due("days 0 .. " + day, x.owes(1, 0), day + 1);
    }
    due("the other way", x.owes(0, 1), 0);
    due("itself", x.owes(1, 1), NONE);
    x.lend(0, 5, 2);
    due("one less", x.owes(1, 0), 27);
    due("the one who has it", x.owes(2, 0), 1);
  }

  private static void rings() {
    Checks.says("A RING: VILLAGES, each of which OWES the next one a DAY at least, the last the first: of fewest, then lowest as bits, begun with its lowest,");
    BorrowedDays x = Checks.villages(8);
    due("none owes", x.ring(NONE), NONE);
    due("its first", x.ring(0), NONE);
    for (int i = 0; i < 7; i++) x.lend(i + 1, 0, i);
    due("seven debts", x.ring(NONE), NONE);
    x.lend(0, 0, 7);
    due("the eighth closes it", x.ring(NONE), 8);
    for (int i = 0; i < 8; i++) due("ring(" + i + ")", x.ring(i), i);
    due("ring(8)", x.ring(8), NONE);
    x.lend(5, 1, 7);
    due("a shorter one, of the highest", x.ring(NONE), 3);
    for (int i = 0; i < 3; i++) due("ring(" + i + ")", x.ring(i), 5 + i);
    x.lend(6, 2, 7);
    due("the shortest", x.ring(NONE), 2);
    due("its lowest first", x.ring(0), 6);
    due("then the other one", x.ring(1), 7);
    due("ring(2)", x.ring(2), NONE);
    x.lend(0, 3, 5);
    x.lend(5, 3, 0);
    due("0, 5 are lower as bits than 6, 7", x.ring(1), 5);
    x.lend(3, 4, 4);
    x.lend(4, 4, 3);
    due("3, 4 are lower as bits than 0, 5", x.ring(0), 3);
    due("one day each is enough", x.owes(3, 4) + 10 * x.owes(4, 3), 12);
    x.undo();
    due("one of them owes no more", x.ring(0), 3);
    x = Checks.villages(1);
    due("one village", x.ring(NONE), NONE);
  }

  // ---- Easter ----

  private static void oneCopyEach() {
    Checks.says("EASTER on a DAY: all VILLAGES hold just one COPY of it each (else there is none)");
    BorrowedDays x = new BorrowedDays();
    due("one each", x.easter(5, 2), 0);
    x.lend(0, 5, 1);
    for (int what = 0; what <= 2; what++) due("none, two", x.easter(5, what), NONE);
    due("none, two: the trade", x.trade(5, 0, 0), NONE);
    due("the day ahead of it", x.easter(4, 1), 4);
    due("the day behind it", x.easter(6, 1), 6);
    x.lend(1, 5, 0);
    due("one each, of another one", x.easter(5, 2), 0);
    x = Checks.villages(1);
    due("one village", x.easter(27, 1), 27);
    due("one village", x.easter(27, 0), 0);
    due("one village", x.easter(27, 2), 0);
  }

  private static void daysAhead() {
    Checks.says("COPIES of DAYS ahead of it go from some to others,");
    BorrowedDays x = new BorrowedDays();
    x.lend(0, 10, 1);
    due("behind the day", x.easter(9, 2), 0);
    due("the day itself", x.easter(10, 2), NONE);
    due("ahead of the day", x.easter(11, 2), 1);
    due("the first day", x.easter(0, 2), 0);
    due("the last day", x.easter(27, 2), 1);
  }

  private static void eightGo() {
    Checks.says("there is none, if they can't be parted alike, or more than 8 COPIES must go.");
    BorrowedDays x = new BorrowedDays();
    for (int n = 1; n <= 8; n++) {
      x.lend(0, n, 1);
      due(n + " go", x.easter(20, 2), n);
      due(n + " go, cost", x.easter(20, 0), n);
      due(n + " go, dawn", x.easter(20, 1), 20);
    }
    due("who gives the eighth", x.trade(20, 7, 0), 1);
    due("who takes the eighth", x.trade(20, 7, 1), 0);
    due("the ninth", x.trade(20, 8, 0), NONE);
    x.lend(0, 9, 1);
    for (int what = 0; what <= 2; what++) due("nine must go", x.easter(20, what), NONE);
    for (int what = 0; what <= 1; what++) due("nine must go", x.trade(20, 0, what), NONE);
    x.lend(1, 10, 0);
    due("eight again: one came the other way", x.easter(20, 2), 8);
    x = Checks.allWith(new BorrowedDays(), 3);
    due("all are with one", x.easter(27, 2), NONE);
  }

  private static void eightFromTheLowest() {
    Checks.says("or more than 8 COPIES must go.");
    BorrowedDays x = new BorrowedDays();
    for (int n = 1; n <= 8; n++) {
      x.lend(1, n, 0);
      due(n + " go from the lowest", x.easter(20, 2), n);
    }
    due("who gives the eighth", x.trade(20, 7, 0), 0);
    due("who takes the eighth", x.trade(20, 7, 1), 1);
    x.lend(1, 9, 0);
    due("nine must go", x.easter(20, 2), NONE);
    for (int n = 8; n >= 0; n--) {
      x.undo();
      due("back to " + n, x.easter(20, 2), n);
      due("the cost of " + n, x.easter(20, 0), n);
    }
    x = Checks.villages(8);
    for (int v = 0; v < 7; v++) x.lend(v, v, 7);
    due("one from each of seven to the last", x.easter(20, 2), 7);
    for (int v = 0; v < 7; v++) due("who takes", x.trade(20, v, 1), v);
    x.lend(0, 8, 7);
    due("two from the first", x.easter(20, 2), 8);
    due("who takes the second", x.trade(20, 1, 1), 0);
    x.lend(6, 9, 7);
    due("two from the last, too", x.easter(20, 2), NONE);
  }

  private static void twoGivers() {
    Checks.says("Givers (each as often as it has too many, lowest first) give to takers: the first as a row of takers of the lowest COST.");
    BorrowedDays x = new BorrowedDays();
    for (int day = 0; day < 5; day++) x.lend(0, day, 1);
    for (int day = 0; day < 3; day++) x.lend(2, day, 3);
    due("five and three go", x.easter(20, 2), 8);
    int[] givers = {1, 1, 1, 1, 1, 3, 3, 3};
    int[] takers = {0, 0, 0, 0, 0, 2, 2, 2};
    for (int i = 0; i < 8; i++) {
      due("who gives " + i, x.trade(20, i, 0), givers[i]);
      due("who takes " + i, x.trade(20, i, 1), takers[i]);
    }
    x.lend(2, 3, 3);
    due("five and four go", x.easter(20, 2), NONE);
    x = Checks.under("costs 99");
    for (int day = 0; day < 8; day++) x.lend(0, day, 1);
    due("the most that it can cost", x.easter(20, 0), 792);
    x = Checks.under("costs 1; costs 0 if holder=1 and to=2; costs 0 if holder=3 and to=0");
    x.lend(0, 0, 1);
    x.lend(2, 1, 3);
    due("none of the two pays", x.easter(20, 0), 0);
    due("the first gives to the second", x.trade(20, 0, 1), 2);
    due("the second gives to the first", x.trade(20, 1, 1), 0);
    x = Checks.under("costs 1; costs 0 if holder=1 and to=2; costs 0 if holder=3 and to=0");
    x.lend(0, 0, 1);
    x.lend(2, 1, 3);
    due("asked ahead of the cost", x.trade(20, 0, 1), 2);
    x = Checks.under("costs 0");
    x.lend(0, 0, 1);
    x.lend(2, 1, 3);
    due("all cost nothing: the first as a row", x.trade(20, 0, 1), 0);
    due("all cost nothing: each place once", x.trade(20, 1, 1), 2);
  }

  private static void chains() {
    Checks.says("each by a chain of trades,");
    BorrowedDays x = Checks.under("costs 3; costs 1 if holder+1=to");
    due("one trade", x.chain(0, 1), 1);
    due("two trades are cheaper", x.chain(0, 2), 2);
    due("three trades as cheap", x.chain(0, 3), 3);
    due("the way back", x.chain(3, 0), 3);
    due("back and forth", x.chain(3, 1), 3);
    due("itself", x.chain(2, 2), 0);
    x.terms(0, 8);
    due("not seven trades, but one", x.chain(0, 7), 3);
    x = Checks.under("costs 99; costs 1 if holder+1=to");
    x.terms(0, 8);
    due("seven trades", x.chain(0, 7), 7);
    due("one step back", x.chain(7, 0), 99);
    x = Checks.under("costs 9; costs 1 if holder=0 or to=0");
    for (int v = 1; v <= 3; v++) for (int w = 1; w <= 3; w++) due("by village 0, " + v + ", " + w, x.chain(v, w), v == w ? 0 : 2);
    x = Checks.under("costs 9; costs 1 if holder+1=to; costs 1 if holder=3 and to=0");
    for (int v = 0; v <= 3; v++) for (int w = 0; w <= 3; w++) due("round, " + v + ", " + w, x.chain(v, w), (w - v + 4) % 4);
    x = Checks.under("costs 0");
    due("it may cost nothing", x.chain(0, 3), 0);
  }

  // ---- bad days and prices ----

  private static void badDays() {
    Checks.says("the lowest VILLAGE that did not hold it yet on this way and is not BARRED from it; till there is none:");
    BorrowedDays x = Checks.villages(8);
    due("eight villages: the last", x.last(0, 0, 0), 7);
    due("eight villages: how often", x.last(0, 0, 1), 7);
    due("begun with the highest: the last", x.last(7, 27, 0), 6);
    due("begun with the highest: how often", x.last(7, 27, 1), 7);
    x.lend(0, 0, 3);
    due("begun with who holds it", x.last(0, 0, 0), 7);
    x = Checks.villages(1);
    due("one village: the last", x.last(0, 0, 0), 0);
    due("one village: how often", x.last(0, 0, 1), 0);
    x = Checks.under("bars");
    due("all are barred: the last", x.last(2, 0, 0), 2);
    due("all are barred: how often", x.last(2, 0, 1), 0);
    x = Checks.under("bars if to<3");
    due("all but one are barred: the last", x.last(0, 0, 0), 3);
    due("all but one are barred: how often", x.last(0, 0, 1), 1);
    x = Checks.under("bars if to=holder+1");
    due("barred by who holds it: 1, 0, 2", x.last(1, 0, 0), 2);
    due("barred by who holds it: how often", x.last(1, 0, 1), 2);
  }

  private static void oneMoreOneLess() {
    Checks.says("more that WANT: 1 more (99 at most), more that SELL: 1 less (1 at least).");
    BorrowedDays x = Checks.under("wants if to<3 and price=10; sells if holder>0");
    due("three want, three sell", x.price(0), 10);
    x = Checks.under("wants if to<3 and price=10; sells if holder>1 and price=10");
    due("three want, two sell", x.price(0), 11);
    x = Checks.under("wants if to<2 and price=10; sells if holder>0 and price=10");
    due("two want, three sell", x.price(0), 9);
    x = Checks.under("wants if price=10");
    due("four want: one more alone", x.price(0), 11);
    x = Checks.under("sells if price=10");
    due("four sell: one less alone", x.price(0), 9);
    x = Checks.under("wants if to=0");
    for (int p = 97; p <= 99; p++) {
      x.terms(1, p);
      due("up from " + p, x.price(0), 99);
      due("rounds up from " + p, x.price(NONE), 100 - p);
    }
    x = Checks.under("sells if holder=3");
    for (int p = 1; p <= 3; p++) {
      x.terms(1, p);
      due("down from " + p, x.price(0), 1);
      due("rounds down from " + p, x.price(NONE), p);
    }
  }

  private static void fiftyRounds() {
    Checks.says("REST: behind how many ROUNDS nothing changed any more (that one, too); 50 ROUNDS at most.");
    BorrowedDays x = Checks.under("sells if weekday=6");
    int[][] down = {{1, 1, 1}, {2, 2, 1}, {49, 49, 1}, {50, 50, 1}, {51, 51, 1}, {52, 51, 2}, {99, 51, 49}};
    for (int[] d : down) {
      x.terms(1, d[0]);
      due("rounds down from " + d[0], x.price(NONE), d[1]);
      due("price down from " + d[0], x.price(6), d[2]);
      due("a weekday that none sells", x.price(5), d[0]);
    }
    x = Checks.under("wants if weekday=0");
    int[][] up = {{99, 1, 99}, {51, 49, 99}, {50, 50, 99}, {49, 51, 99}, {48, 51, 98}, {1, 51, 51}};
    for (int[] u : up) {
      x.terms(1, u[0]);
      due("rounds up from " + u[0], x.price(NONE), u[1]);
      due("price up from " + u[0], x.price(0), u[2]);
      due("a weekday that none wants", x.price(1), u[0]);
    }
    x = Checks.under("wants if price<11; sells if price>10");
    due("up and down for ever", x.price(NONE), 51);
    due("behind 50 rounds up and down", x.price(0), 10);
    due("no law", new BorrowedDays().price(NONE), 1);
    for (int w = -1; w <= 7; w++) {
      x = Checks.under("wants if weekday+1=" + (w + 1) + " and price<12");
      due("rounds of weekday " + w, x.price(NONE), w >= 0 && w <= 6 ? 3 : 1);
    }
  }

  // ---- deeds ----

  private static void tenDeeds() {
    Checks.says("DEEDS, 10 at most, tell that a VILLAGE was on a DAY at a DAWN 0 .. 223.");
    BorrowedDays x = new BorrowedDays();
    for (int i = 0; i < 10; i++) due("deed " + i, x.deed(0, i, i), i + 1);
    due("the eleventh", x.deed(0, 10, 10), -5);
    due("how many", x.count(3), 10);
    x.burn(0);
    due("the tenth again", x.deed(0, 10, 10), 10);
    due("the eleventh again", x.deed(0, 10, 10), -5);
    x = new BorrowedDays();
    int[] good = {0, 1, 222, 223};
    int n = 0;
    for (int dawn : good) {
      n++;
      due("dawn " + dawn, x.deed(0, dawn, 0), n);
    }
    for (int dawn : new int[] {-1, 224, 225, Integer.MIN_VALUE, Integer.MAX_VALUE}) due("dawn " + dawn, x.deed(0, dawn, 0), -1);
    due("how many", x.count(3), 4);
  }

  private static void forgedDeeds() {
    Checks.says("FORGED are those that are not so.");
    BorrowedDays x = new BorrowedDays();
    x.lend(0, 5, 1);
    // village 1 is on day 5 at dawns 5, 6, and on day 27 at dawn 28; village 0 never is on day 5
    int[][] deeds = {{1, 4, 5}, {1, 5, 5}, {1, 6, 5}, {1, 7, 5}, {1, 28, 27}, {1, 29, 27}, {0, 5, 5}, {0, 26, 27}, {0, 27, 27}, {2, 0, 0}};
    for (int[] d : deeds) x.deed(d[0], d[1], d[2]);
    int[] forged = {0, 3, 5, 6, 8};
    due("how many", x.forged(NONE), forged.length);
    for (int i = 0; i < forged.length; i++) due("the " + i + "th", x.forged(i), forged[i]);
    due("behind the last", x.forged(forged.length), NONE);
    x = Checks.allWith(new BorrowedDays(), 3);
    x.deed(3, 223, 27);
    x.deed(3, 0, 0);
    x.deed(3, 7, 0);
    due("a row of 224", x.forged(NONE), 0);
    x.deed(3, 8, 0);
    x.deed(3, 215, 27);
    x.deed(0, 0, 0);
    due("a row of 224, one beside", x.forged(NONE), 3);
  }

  private static void burnt() {
    Checks.says("DEEDS, 10 at most, tell that a VILLAGE was on a DAY at a DAWN");
    int[][] so = {{1, 28, 27}, {1, 27, 27}, {1, 26, 26}};
    int[][] forged = {{0, 28, 27}, {1, 26, 27}, {1, 28, 26}};
    for (int i = 0; i < 3; i++) {
      BorrowedDays x = new BorrowedDays();
      x.lend(3, 27, 1);
      int[][] deeds = {so[i], forged[i], so[i]};
      for (int[] d : deeds) x.deed(d[0], d[1], d[2]);
      due("one is forged", x.forged(NONE), 1);
      due("the second", x.forged(0), 1);
      x.burn(0);
      due("one is forged still", x.forged(NONE), 1);
      due("it moved up", x.forged(0), 0);
      x.burn(0);
      due("none is forged any more", x.forged(NONE), 0);
    }
  }

  private static void oneDeedExplained() {
    Checks.says("A LOAN that EXPLAINS: one COPY that is with another VILLAGE instead, by which none is FORGED:");
    // at 4: one ahead of the day goes from village 1; at 5: all but those; at 6: one comes, ahead of it or on it
    int[][] due = {{3, 0, NONE, NONE, NONE}, {4, 15, 1, 0, 0}, {5, 303, 0, 0, 2}, {6, 18, 0, 0, 1}, {7, 0, NONE, NONE, NONE}};
    for (int[] d : due) {
      BorrowedDays x = new BorrowedDays();
      x.deed(1, d[0], 5);
      for (int what = 0; what <= 3; what++) due("dawn " + d[0] + ", explains(" + what + ")", x.explains(what), d[1 + what]);
    }
    BorrowedDays x = new BorrowedDays();
    x.lend(0, 5, 1);
    x.deed(1, 7, 5);
    // the third COPY of day 5, or one of a day ahead of it
    due("two of a day", x.explains(0), 17);
    x.deed(1, 4, 5);
    due("none can be at both", x.explains(0), 0);
  }

  private static void explanations() {
    Checks.says("A LOAN that EXPLAINS: one COPY that is with another VILLAGE instead, by which none is FORGED: how many, the first by OWNER, DAY, VILLAGE.");
    for (int n = 1; n <= 8; n++) {
      BorrowedDays x = Checks.villages(n);
      due("no deed, " + n + " villages", x.explains(0), n * 28 * (n - 1));
      due("the first owner", x.explains(1), n == 1 ? NONE : 0);
      due("the first day", x.explains(2), n == 1 ? NONE : 0);
      due("the first village", x.explains(3), n == 1 ? NONE : 1);
    }
    BorrowedDays x = Checks.villages(8);
    x.deed(6, 28, 27);
    x.deed(6, 27, 27);
    for (int v = 0; v < 6; v++) x.deed(v, 27, 27);
    due("one alone", x.explains(0), 1);
    due("its owner is the last one", x.explains(1), 7);
    due("its day is the last one", x.explains(2), 27);
    due("its village", x.explains(3), 6);
    x.deed(0, 0, 0);
    x.deed(7, 27, 27);
    due("the tenth deed stands against it", x.explains(0), 0);
    for (int what = 1; what <= 3; what++) due("none", x.explains(what), NONE);
    x = Checks.villages(2);
    x.lend(1, 27, 0);
    x.deed(1, 27, 27);
    due("one that goes home, or the other copy of its day", x.explains(0), 2);
    due("the first one's owner", x.explains(1), 0);
    due("its day", x.explains(2), 27);
    due("its village", x.explains(3), 1);
    x.deed(0, 28, 27);
    due("village 0 has both", x.explains(0), 0);
  }

  // ---- years, rain, images ----

  private static int[] paper;
  private static int seed;

  private static int draw(int m) {
    seed = (int) ((seed * 1103L + 12345) % 1000003);
    return seed % m;
  }

  /** A year without laws, all copies at home: how many went. */
  private static int yearOnPaper(int from, int n, int villages) {
    seed = from;
    paper = new int[villages * 28];
    for (int i = 0; i < paper.length; i++) paper[i] = i / 28;
    int went = 0;
    for (int i = 0; i < n; i++) {
      int copy = draw(villages) * 28;
      copy += draw(28);
      int to = draw(villages);
      went += paper[copy] == to ? 0 : 1;
      paper[copy] = to;
    }
    return went;
  }

  private static void yearIs(BorrowedDays x, int from, int n) {
    int villages = x.count(0);
    String year = "year(" + from + ", " + n + ") of " + villages;
    due(year, x.year(from, n), yearOnPaper(from, n, villages));
    for (int v = 0; v < villages; v++) {
      int holds = 0;
      int away = 0;
      for (int i = 0; i < paper.length; i++) {
        holds += paper[i] == v ? 1 : 0;
        away += i / 28 == v && paper[i] != v ? 1 : 0;
      }
      due(year + ", what " + v + " holds", x.drawn(v, 0), holds);
      due(year + ", what of " + v + " is away", x.drawn(v, 1), away);
    }
    due(year + ", behind the last village", x.drawn(villages, 0), NONE);
  }

  private static void draws() {
    Checks.says("s is the SEED (0 .. 1,000,000); a DRAW of m: s becomes (s times 1103 and 12345) modulo 1,000,003, it is s modulo m.");
    for (int n = 1; n <= 8; n++) {
      BorrowedDays x = Checks.villages(n);
      for (int from : new int[] {0, 1, 999999, 1000000}) {
        yearIs(x, from, 1);
        yearIs(x, from, 2);
        yearIs(x, from, 59);
        yearIs(x, from, 60);
      }
      for (int from : new int[] {-1, 1000001, 1000003, Integer.MIN_VALUE, Integer.MAX_VALUE}) due("seed " + from, x.year(from, 1), -1);
    }
    // 9036: owner 0; 979026: day 6; 874786: to 2
    BorrowedDays x = new BorrowedDays();
    due("year(1000000, 1)", x.year(1000000, 1), 1);
    due("what village 2 holds", x.drawn(2, 0), 29);
    due("what of village 0 is away", x.drawn(0, 1), 1);
    x = Checks.villages(1);
    due("one village: none goes", x.year(1000000, 60), 0);
  }

  private static void goesIfItMay() {
    Checks.says("it goes there, if it is not there and not BARRED.");
    BorrowedDays x = new BorrowedDays();
    x.lend(0, 6, 2);
    due("it is there", x.year(1000000, 1), 0);
    due("what village 2 holds", x.drawn(2, 0), 29);
    x.lend(0, 6, 1);
    due("it is with another one", x.year(1000000, 1), 1);
    due("what village 1 holds", x.drawn(1, 0), 28);
    due("what village 2 holds", x.drawn(2, 0), 29);
    due("barred", Checks.under("bars if owner=0 and holder=0 and to=2 and day=6 and weekday=6 and rain=0 and held=28").year(1000000, 1), 0);
    for (String word : new String[] {"owner=1", "holder=1", "to=1", "day=5", "weekday=5", "rain=1", "held=29"}) {
      due("not barred by " + word, Checks.under("bars if " + word).year(1000000, 1), 1);
    }
    x = Checks.under("bars if rain=1");
    x.rain(6, 1);
    due("barred by rain", x.year(1000000, 1), 0);
    due("on paper alone", x.of(0, 6, 0, 0), 0);
  }

  private static void rowOfRain() {
    Checks.says("A ROW of RAIN: the TAPE's bytes are DAYS that are RAINY; others are FOG: none.");
    for (int b = 0; b <= 255; b++) {
      BorrowedDays x = new BorrowedDays();
      Checks.tape(x, "" + (char) b);
      due("byte " + b, x.row(), b <= 27 ? 1 : 0);
      due("fog of byte " + b, x.fog(), b <= 27 ? 0 : 1);
      due("rainy days by byte " + b, x.count(1), b <= 27 ? 1 : 0);
      if (b <= 27) due("day " + b, x.rain(b, 1), 1);
    }
  }

  private static void twoImages() {
    Checks.says("IMAGES 0, 1 keep all but the TAPE, FAULT, FOG, the latest YEAR;");
    BorrowedDays x = new BorrowedDays();
    for (int k : new int[] {-1, 2, Integer.MIN_VALUE, Integer.MAX_VALUE}) {
      due("image(" + k + ")", x.image(k), -1);
      due("back(" + k + ")", x.back(k), -1);
    }
    for (int k = 0; k <= 1; k++) due("back(" + k + ") ahead of it", x.back(k), -2);
    due("image(0)", x.image(0), 0);
    due("back(1), the other one is kept", x.back(1), -2);
    fillAll(x);
    due("image(1)", x.image(1), 0);
    due("back(0)", x.back(0), 0);
    int[] empty = {4, 0, 0, 0, 0};
    for (int i = 0; i < empty.length; i++) due("count(" + i + ") of image 0", x.count(i), empty[i]);
    due("the law in force", x.count(11), NONE);
    due("the price", x.count(12), 10);
    due("away", x.away(), 0);
    due("undo", x.undo(), -3);
    due("the tape stays", x.count(5), 20);
    due("the fog stays", x.fog(), 20);
    due("the year stays", x.drawn(7, 0), 28);
    due("back(1)", x.back(1), 0);
    int[] full = {8, 28, 6, 10, 32};
    for (int i = 0; i < full.length; i++) due("count(" + i + ") of image 1", x.count(i), full[i]);
    due("the law in force", x.count(11), 5);
    due("the price", x.count(12), 99);
    due("away", x.away(), 33);
    due("what the law tells", x.of(0, 0, 0, 2), 5);
    for (int i = 0; i < 32; i++) due("undo", x.undo(), (32 - i) / 28);
    due("undo, the 33rd", x.undo(), -3);
    for (int i = 0; i < 10; i++) due("forged(" + i + ")", x.forged(i), i);
  }

  private static void fillAll(BorrowedDays x) {
    x.terms(0, 8);
    x.terms(1, 99);
    x.year(0, 1);
    x.feed(-1, -1, -1, -1, -1);
    x.row();
    for (int day = 0; day < 28; day++) x.rain(day, 1);
    for (int i = 0; i < 6; i++) {
      Checks.law(x, "pays " + i);
      x.force(i);
    }
    for (int i = 0; i < 33; i++) x.lend(i / 28, i % 28, 7);
    for (int i = 0; i < 10; i++) x.deed(0, 28, 27);
    x.feed(0, 0, 0, 0, 0);
  }

  private static void imagesKeepLists() {
    Checks.says("BACK to one all that it keeps is as it was then");
    int[][] others = {{0, 28, 27}, {1, 26, 27}, {1, 28, 26}};
    for (int[] other : others) {
      BorrowedDays x = new BorrowedDays();
      x.image(1);
      Checks.law(x, "pays 5");
      x.force(0);
      x.lend(3, 27, 2);
      x.lend(3, 27, 1);
      x.deed(1, 28, 27);
      x.image(0);
      x.lend(2, 0, 3);
      x.back(1);
      due("image 1, laws", x.count(2), 0);
      due("image 1, undo", x.undo(), -3);
      Checks.law(x, "pays 6");
      x.force(0);
      x.lend(0, 9, 3);
      x.lend(0, 9, 1);
      x.lend(1, 8, 2);
      x.deed(other[0], other[1], other[2]);
      x.back(0);
      due("its law", x.of(0, 0, 0, 2), 5);
      due("its deed is not forged", x.forged(NONE), 0);
      int[] held = {2, 3};
      for (int h : held) {
        due("its loan is undone", x.undo(), 3);
        due("who holds it then", x.of(3, 27, 0, 0), h);
      }
      due("it has no third loan", x.undo(), -3);
      due("away", x.away(), 0);
    }
  }

  private static void faultStays() {
    Checks.says("keep all but the TAPE, FAULT,");
    BorrowedDays x = new BorrowedDays();
    x.image(0);
    Checks.law(x, "pays x");
    due("back(0)", x.back(0), 0);
    due("the fault is not undone", x.fault(), 5);
    x.image(0);
    Checks.law(x, "pays 1");
    due("back(0)", x.back(0), 0);
    due("none is not undone", x.fault(), NONE);
  }

  private static void imagesStay() {
    Checks.says("BACK to one all that it keeps is as it was then (IMAGES stay).");
    BorrowedDays x = new BorrowedDays();
    x.lend(0, 0, 1);
    x.image(0);
    for (int i = 0; i < 3; i++) {
      x.lend(0, 0, 2);
      x.lend(0, 1, 3);
      due("back(0)", x.back(0), 0);
      due("who holds day 0", x.of(0, 0, 0, 0), 1);
      due("who holds day 1", x.of(0, 1, 0, 0), 0);
      due("what can be undone", x.count(4), 1);
    }
    x.image(1);
    x.undo();
    x.image(0);
    x.back(1);
    due("image 1 is not image 0", x.of(0, 0, 0, 0), 1);
    x.back(0);
    due("image 0 was kept anew", x.of(0, 0, 0, 0), 0);
    x.back(1);
    due("image 1 is still there", x.of(0, 0, 0, 0), 1);
    x.terms(0, 1);
    x.back(1);
    due("villages that went are there again", x.count(0), 4);
    due("wages of one of them", x.wages(1, 224), 29);
    due("wages of one that is not", x.wages(4, 224), NOTHING);
  }

  public static void main(String[] args) {
    rowOfAll();
    ages();
    wagesOfAll();
    gaps();
    debts();
    rings();
    oneCopyEach();
    daysAhead();
    eightGo();
    eightFromTheLowest();
    twoGivers();
    chains();
    badDays();
    oneMoreOneLess();
    fiftyRounds();
    tenDeeds();
    forgedDeeds();
    burnt();
    oneDeedExplained();
    explanations();
    draws();
    goesIfItMay();
    rowOfRain();
    twoImages();
    faultStays();
    imagesStay();
    imagesKeepLists();
    Checks.end();
  }
}
