/** The bounds that the promises themselves name, one method for each promise: on the bound, one below, one above. */
public final class PromiseBounds {
  private static final int NONE = -1;
  private static final int NOTHING = -1000000;
  private static final int MIN = Integer.MIN_VALUE;
  private static final int MAX = Integer.MAX_VALUE;

  private static void due(String what, int got, int want) {
    Checks.due(what, got, want);
  }

  private static void promise1() {
    Checks.says("A new object: Four VILLAGES, all COPIES at home.");
    BorrowedDays x = new BorrowedDays();
    int[] counts = {4, 0, 0, 0, 0, 0, 0, 0, 0, 0, 0, NONE, 10};
    for (int i = 0; i < counts.length; i++) due("count(" + i + ")", x.count(i), counts[i]);
    due("away", x.away(), 0);
    due("status", x.status(), 0);
    due("fog", x.fog(), 0);
    due("fault", x.fault(), NONE);
    due("forged", x.forged(NONE), 0);
    due("drawn", x.drawn(0, 0), NONE);
    due("the fourth village", x.live(3, NONE, 0), 28);
    due("a fifth village", x.live(4, NONE, 0), NONE);
    due("undo", x.undo(), -3);
    BorrowedDays y = new BorrowedDays();
    x.lend(0, 0, 1);
    x.rain(0, 1);
    x.image(0);
    due("another object's copy", y.of(0, 0, 0, 0), 0);
    due("another object's rain", y.count(1), 0);
    due("another object's image", y.back(0), -2);
    due("another object's status", new BorrowedDays().status(), 0);
  }

  private static void promise2() {
    Checks.says("A TERM: what it was. -1.");
    int[][] bad = {{-1, 1}, {2, 1}, {MIN, 1}, {MAX, 1}, {0, 0}, {0, 9}, {1, 0}, {1, 100}, {0, MIN}, {0, MAX}, {1, MIN}, {1, MAX}};
    BorrowedDays x = new BorrowedDays();
    for (int i = 0; i < bad.length; i++) {
      due("terms(" + bad[i][0] + ", " + bad[i][1] + ")", x.terms(bad[i][0], bad[i][1]), -1);
      due("status", x.status(), -1);
      due("how many were refused", x.count(6), i + 1);
    }
    due("the first good one", x.terms(0, 1), 4);
    due("status", x.status(), 0);
    due("it was 1", x.terms(0, 8), 1);
    due("it was 8", x.terms(0, 8), 8);
    due("it was 10", x.terms(1, 1), 10);
    due("it was 1", x.terms(1, 99), 1);
    due("it was 99", x.terms(1, 99), 99);
  }

  private static void promise3() {
    Checks.says("A DAY is RAINY (1), is not (0): what it was. -1.");
    BorrowedDays x = new BorrowedDays();
    for (int day : new int[] {0, 27}) {
      int[][] calls = {{0, 0}, {1, 0}, {1, 1}, {0, 1}, {0, 0}, {1, 0}};
      for (int[] c : calls) due("rain(" + day + ", " + c[0] + ")", x.rain(day, c[0]), c[1]);
    }
    due("rainy days", x.count(1), 2);
    for (int is : new int[] {-1, 2, MIN, MAX}) {
      due("rain(0, " + is + ")", x.rain(0, is), -1);
      due("rain(5, " + is + ")", x.rain(5, is), -1);
    }
    for (int day : new int[] {-1, 28, MIN, MAX}) due("rain(" + day + ", 1)", x.rain(day, 1), -1);
    due("rainy days", x.count(1), 2);
    due("how many were refused", x.count(6), 12);
  }

  private static void promise4() {
    Checks.says("Twenty bytes come behind the TAPE, four of each number, the highest first: how many it has. NONE, if there would be more than 400.");
    for (int had = 379; had <= 381; had++) {
      BorrowedDays x = new BorrowedDays();
      for (int i = 0; i < 20; i++) due("feed " + i, x.feed(0, 0, 0, 0, 0), 20 * (i + 1));
      x.end(had);
      due("feed behind " + had, x.feed(0, 0, 0, 0, 0), had <= 380 ? had + 20 : NONE);
      due("bytes", x.count(5), had <= 380 ? had + 20 : had);
      due("it is not refused", x.status(), 0);
      for (int what = 6; what <= 10; what++) due("count(" + what + ")", x.count(what), 0);
    }
    BorrowedDays x = new BorrowedDays();
    x.feed(0x00010203, 0x04050607, 0x08090a0b, 0x0c0d0e0f, 0x10111213);
    for (int n = 20; n >= 1; n--) {
      x.end(n);
      due("bytes", x.count(5), n);
    }
    due("the highest byte of the first number", x.row(), 1);
    due("it is day 0", x.rain(0, 0), 1);
    x.feed(0xff000000, 0, 0, 0, 0);
    x.end(1);
    x.row();
    due("a number below 0", x.fog(), 1);
    x.feed(0x1b1b1b1b, 0x1b1b1b1b, 0x1b1b1b1b, 0x1b1b1b1b, 0x1b1b1b1a);
    due("the lowest byte of the last number", x.row(), 2);
    due("it is day 26", x.rain(26, 0), 1);
    x.feed(0x05050505, 0, 0, 0, 0);
    x.end(4);
    x.feed(0x06060606, 0, 0, 0, 0);
    x.end(8);
    due("behind the tape", x.row(), 2);
  }

  private static void promise5() {
    Checks.says("The TAPE has its first n bytes alone: n. NONE, if it has not so many, or n is below 0.");
    BorrowedDays x = new BorrowedDays();
    due("end(0), empty", x.end(0), 0);
    due("end(1), empty", x.end(1), NONE);
    x.feed(0, 0, 0, 0, 0);
    for (int n : new int[] {-1, 21, MIN, MAX}) {
      due("end(" + n + ")", x.end(n), NONE);
      due("bytes", x.count(5), 20);
    }
    for (int n : new int[] {20, 19, 1, 0}) {
      due("end(" + n + ")", x.end(n), n);
      due("bytes", x.count(5), n);
      due("end, one more", x.end(n + 1), NONE);
    }
    for (int i = 0; i < 20; i++) x.feed(0, 0, 0, 0, 0);
    due("end(400)", x.end(400), 400);
    due("end(401)", x.end(401), NONE);
    due("end(399)", x.end(399), 399);
    due("end(400)", x.end(400), NONE);
    due("it is not refused", x.status(), 0);
    due("count(6)", x.count(6), 0);
  }

  private static void promise6() {
    Checks.says("A ROW of RAIN, the TAPE is empty then: how many DAYS became RAINY that were not. -6 the TAPE is empty.");
    BorrowedDays x = new BorrowedDays();
    due("no byte", x.row(), -6);
    due("status", x.status(), -6);
    due("how many were refused", x.count(10), 1);
    StringBuilder all = new StringBuilder();
    for (int b = 0; b < 256; b++) all.append((char) b);
    Checks.tape(x, all.toString());
    x.rain(7, 1);
    due("all bytes", x.row(), 27);
    due("status", x.status(), 0);
    due("the tape", x.count(5), 0);
    due("rainy days", x.count(1), 28);
    due("fog", x.fog(), 228);
    due("the tape is empty then", x.row(), -6);
    Checks.tape(x, all.toString());
    due("all bytes again", x.row(), 0);
    x = new BorrowedDays();
    Checks.tape(x, Checks.times(400, "" + (char) 27));
    due("400 times one day", x.row(), 1);
    Checks.tape(x, Checks.times(400, "" + (char) 28));
    due("400 times fog", x.row(), 0);
    due("fog", x.fog(), 400);
    x.feed(0, 0, 0, 0, 0);
    x.end(0);
    due("an end of no bytes", x.row(), -6);
    due("rainy days", x.count(1), 1);
  }

  private static void promise7() {
    Checks.says("How many bytes were FOG in the latest row() that was not REFUSED (0 ahead of any).");
    BorrowedDays x = new BorrowedDays();
    due("ahead of any", x.fog(), 0);
    x.row();
    due("behind one that was refused", x.fog(), 0);
    Checks.tape(x, "ab" + (char) 28 + (char) 27);
    x.row();
    due("three", x.fog(), 3);
    x.row();
    due("behind one that was refused", x.fog(), 3);
    Checks.law(x, "ab");
    due("a text is no row", x.fog(), 3);
    Checks.tape(x, "" + (char) 0);
    x.row();
    due("none", x.fog(), 0);
  }

  private static void promise8() {
    Checks.says("-5 (ahead of reading it; the TAPE is empty then, too); -6 (blanks alone: FAULT at the end).");
    BorrowedDays x = new BorrowedDays();
    due("no byte", x.law(), -6);
    due("its fault", x.fault(), 0);
    for (int n : new int[] {1, 20, 399, 400}) {
      due(n + " blanks", Checks.law(x, Checks.times(n, " ")), -6);
      due("their fault", x.fault(), n);
      due("the tape", x.count(5), 0);
      due("status", x.status(), -6);
    }
    for (int i = 0; i < 6; i++) {
      due("law " + i, Checks.law(x, "bars"), i);
      due("the tape", x.count(5), 0);
      due("status", x.status(), 0);
    }
    due("no room, a good text", Checks.law(x, "bars"), -5);
    due("the tape", x.count(5), 0);
    due("no room, a bad text", Checks.law(x, "x"), -5);
    due("the tape", x.count(5), 0);
    due("it was not read", x.fault(), NONE);
    due("no room, no byte", x.law(), -5);
    due("laws", x.count(2), 6);
    due("refused by -5", x.count(9), 3);
    due("refused by -6", x.count(10), 5);
  }

  private static void promise9() {
    Checks.says("FAULT of the latest law() that read a TEXT: its place; NONE without.");
    BorrowedDays x = new BorrowedDays();
    due("ahead of any", x.fault(), NONE);
    Checks.law(x, "pays x");
    due("a bad one", x.fault(), 5);
    Checks.law(x, "pays 1");
    due("a good one", x.fault(), NONE);
    Checks.law(x, "x");
    due("at 0", x.fault(), 0);
    Checks.tape(x, "x");
    x.row();
    due("a row is no text", x.fault(), 0);
    for (int i = 1; i < 6; i++) Checks.law(x, "bars");
    due("the sixth was good", x.fault(), NONE);
    x = new BorrowedDays();
    for (int i = 0; i < 5; i++) Checks.law(x, "bars");
    x.image(0);
    Checks.law(x, "bars");
    x.back(0);
    Checks.law(x, "bars x");
    due("a bad one", x.fault(), 5);
    x.image(1);
    x.back(0);
    Checks.law(x, "bars");
    due("the sixth was good", x.fault(), NONE);
  }

  private static void promise10() {
    Checks.says("A LAW is in FORCE (NONE: none): which was. -2.");
    BorrowedDays x = new BorrowedDays();
    due("none", x.force(NONE), NONE);
    for (int law : new int[] {0, 5, -2, MIN, MAX}) due("force(" + law + ") without laws", x.force(law), -2);
    for (int i = 0; i < 6; i++) {
      due("force(" + i + ") ahead of it", x.force(i), -2);
      Checks.law(x, "pays " + (20 + i));
      due("force(" + i + ")", x.force(i), i - 1);
      due("what it tells", x.of(0, 0, 0, 2), 20 + i);
    }
    for (int law : new int[] {6, -2, MIN, MAX}) {
      due("force(" + law + ")", x.force(law), -2);
      due("the law in force", x.count(11), 5);
    }
    due("the same again", x.force(5), 5);
    due("none", x.force(NONE), 5);
    due("none again", x.force(NONE), NONE);
    due("status", x.status(), 0);
    due("what none tells", x.of(0, 0, 0, 2), 1);
    due("how many were refused", x.count(7), 15);
  }

  private static void promise11() {
    Checks.says("Who holds a COPY (what 0), whether a VILLAGE to is BARRED from it (1: 1, 0; also who holds it), what it PAYS (2). (to matters for 1 alone.) NOTHING.");
    BorrowedDays x = Checks.under("bars if to=3; pays 0-7");
    x.lend(3, 27, 1);
    x.lend(3, 26, 2);
    int[] odd = {-1, 4, MIN, MAX};
    for (int to : odd) {
      due("who holds it, to " + to, x.of(3, 27, to, 0), 1);
      due("whether barred, to " + to, x.of(3, 27, to, 1), NOTHING);
      due("what it pays, to " + to, x.of(3, 27, to, 2), -7);
    }
    due("to 3", x.of(3, 27, 3, 1), 1);
    due("to 2", x.of(3, 27, 2, 1), 0);
    due("to 1, who holds it", x.of(3, 27, 1, 1), 0);
    due("to 3, who holds it", x.of(3, 25, 3, 1), 1);
    for (int what : new int[] {-1, 3, MIN, MAX}) due("what " + what, x.of(3, 27, 0, what), NOTHING);
    for (int v : odd) for (int what = 0; what <= 2; what++) due("owner " + v, x.of(v, 0, 0, what), NOTHING);
    for (int day : new int[] {-1, 28, MIN, MAX}) for (int what = 0; what <= 2; what++) due("day " + day, x.of(0, day, 0, what), NOTHING);
    due("it is not refused", x.status(), 0);
  }

  private static void promise12() {
    Checks.says("A COPY goes to a VILLAGE: who held it. -1 (no DAY); -2; -3 it is there, BARRED.");
    BorrowedDays x = Checks.under("bars if to=2");
    due("its owner has it", x.lend(0, 0, 0), -3);
    due("it goes", x.lend(0, 0, 3), 0);
    due("status", x.status(), 0);
    due("it is there", x.lend(0, 0, 3), -3);
    due("barred", x.lend(0, 0, 2), -3);
    due("from one to another one", x.lend(0, 0, 1), 3);
    due("to its owner", x.lend(0, 0, 0), 1);
    due("the last day, the last village", x.lend(3, 27, 0), 3);
    due("four can be undone", x.count(4), 4);
    for (int day : new int[] {-1, 28, MIN, MAX}) due("day " + day, x.lend(0, day, 1), -1);
    for (int v : new int[] {-1, 4, MIN, MAX}) {
      due("owner " + v, x.lend(v, 0, 1), -2);
      due("to " + v, x.lend(0, 0, v), -2);
    }
    due("four can be undone", x.count(4), 4);
    int[] counts = {4, 8, 3, 0, 0};
    for (int i = 0; i < 5; i++) due("count(" + (6 + i) + ")", x.count(6 + i), counts[i]);
  }

  private static void promise13() {
    Checks.says("A COPY goes home: who held it. -1; -2; -3 it is at home.");
    BorrowedDays x = new BorrowedDays();
    due("never lent", x.home(0, 0), -3);
    x.lend(0, 0, 3);
    x.lend(3, 27, 0);
    due("home(0, 0)", x.home(0, 0), 3);
    due("it is at home", x.home(0, 0), -3);
    due("home(3, 27)", x.home(3, 27), 0);
    due("status", x.status(), 0);
    due("away", x.away(), 0);
    due("four can be undone", x.count(4), 4);
    for (int day : new int[] {-1, 28, MIN, MAX}) due("day " + day, x.home(0, day), -1);
    for (int v : new int[] {-1, 4, MIN, MAX}) due("owner " + v, x.home(v, 0), -2);
    int[] counts = {4, 4, 2, 0, 0};
    for (int i = 0; i < 5; i++) due("count(" + (6 + i) + ")", x.count(6 + i), counts[i]);
  }

  private static void promise14() {
    Checks.says("The latest lend() or home() that is not undone yet (32 are kept) is undone: the OWNER. -3 there is none.");
    for (int made = 31; made <= 34; made++) {
      BorrowedDays x = new BorrowedDays();
      for (int i = 0; i < made; i++) x.lend(i / 28, i % 28, 3);
      int kept = Math.min(made, 32);
      for (int i = 0; i < kept; i++) {
        int copy = made - 1 - i;
        due("how many can be undone", x.count(4), kept - i);
        due("undo " + i + " of " + made, x.undo(), copy / 28);
        due("it is at home", x.of(copy / 28, copy % 28, 0, 0), copy / 28);
      }
      due("one more of " + made, x.undo(), -3);
      due("status", x.status(), -3);
      due("those that are not kept", x.away(), made - kept);
    }
    BorrowedDays x = new BorrowedDays();
    due("none", x.undo(), -3);
    x.lend(2, 0, 1);
    x.lend(2, 0, 3);
    x.home(2, 0);
    x.home(2, 0);
    x.lend(2, 0, 2);
    due("three: what was refused is none", x.count(4), 3);
    int[] held = {3, 1, 2};
    for (int h : held) {
      due("undo", x.undo(), 2);
      due("who holds it then", x.of(2, 0, 0, 0), h);
    }
    due("none: undo is not undone", x.undo(), -3);
    for (int round = 0; round < 40; round++) {
      x.lend(round % 4, 5, (round + 1) % 4);
      due("undo in round " + round, x.undo(), round % 4);
    }
    due("away", x.away(), 0);
  }

  private static void promise15() {
    Checks.says("How many COPIES a VILLAGE holds (dawn NONE); of its ROW on a DAWN the DAY (what 0), the OWNER (1). NONE.");
    BorrowedDays x = new BorrowedDays();
    x.lend(1, 27, 0);
    due("how many", x.live(0, NONE, 0), 29);
    due("how many, one less", x.live(1, NONE, 0), 27);
    int[][] rows = {{0, 0, 0, 0}, {0, 27, 27, 0}, {0, 28, 27, 1}, {1, 0, 0, 1}, {1, 26, 26, 1}};
    for (int[] r : rows) {
      due("day on dawn " + r[1], x.live(r[0], r[1], 0), r[2]);
      due("owner on dawn " + r[1], x.live(r[0], r[1], 1), r[3]);
    }
    for (int what = 0; what <= 1; what++) {
      due("behind the last dawn", x.live(0, 29, what), NONE);
      due("behind the last dawn", x.live(1, 27, what), NONE);
      for (int dawn : new int[] {-2, 224, MIN, MAX}) due("dawn " + dawn, x.live(0, dawn, what), NONE);
    }
    for (int what : new int[] {-1, 2, MIN, MAX}) due("what " + what, x.live(0, 0, what), NONE);
    for (int v : new int[] {-1, 4, MIN, MAX}) due("village " + v, x.live(v, NONE, 0), NONE);
  }

  private static void promise16() {
    Checks.says("On which DAWN a VILLAGE comes to a DAY first (what 0), how often it lives through it (1). NONE (never, for 0).");
    BorrowedDays x = new BorrowedDays();
    x.lend(0, 0, 1);
    x.lend(2, 0, 1);
    x.lend(3, 0, 1);
    due("never, first", x.when(0, 0, 0), NONE);
    due("never, how often", x.when(0, 0, 1), 0);
    due("four times, first", x.when(1, 0, 0), 0);
    due("four times, how often", x.when(1, 0, 1), 4);
    due("the day behind", x.when(1, 1, 0), 4);
    due("the last day", x.when(1, 27, 0), 30);
    due("the last day, one less", x.when(0, 27, 0), 26);
    for (int what : new int[] {-1, 2, MIN, MAX}) due("what " + what, x.when(1, 0, what), NONE);
    for (int v : new int[] {-1, 4, MIN, MAX}) for (int what = 0; what <= 1; what++) due("village " + v, x.when(v, 0, what), NONE);
    for (int day : new int[] {-1, 28, MIN, MAX}) for (int what = 0; what <= 1; what++) due("day " + day, x.when(0, day, what), NONE);
  }

  private static void promise17() {
    Checks.says("AGE by a DAY, at a DAWN 0 .. 224. NONE.");
    BorrowedDays x = new BorrowedDays();
    for (int dawn : new int[] {0, 1, 223, 224}) due("dawn " + dawn, x.age(0, 0, dawn), dawn == 0 ? 0 : 1);
    for (int dawn : new int[] {-1, 225, MIN, MAX}) due("dawn " + dawn, x.age(0, 0, dawn), NONE);
    for (int v : new int[] {-1, 4, MIN, MAX}) due("village " + v, x.age(v, 0, 0), NONE);
    for (int day : new int[] {-1, 28, MIN, MAX}) due("day " + day, x.age(0, day, 0), NONE);
  }

  private static void promise18() {
    Checks.says("WAGES till a DAWN 0 .. 224. NOTHING.");
    BorrowedDays x = Checks.under("pays 0-1");
    for (int dawn : new int[] {0, 1, 27, 28, 29, 223, 224}) due("dawn " + dawn, x.wages(0, dawn), -Math.min(dawn, 28));
    for (int dawn : new int[] {-1, 225, MIN, MAX}) due("dawn " + dawn, x.wages(0, dawn), NOTHING);
    for (int v : new int[] {-1, 4, MIN, MAX}) due("village " + v, x.wages(v, 0), NOTHING);
  }

  private static void promise19() {
    Checks.says("GAP of a VILLAGE. NONE.");
    BorrowedDays x = new BorrowedDays();
    for (int v = 0; v < 4; v++) due("village " + v, x.gap(v), 0);
    for (int v : new int[] {-1, 4, MIN, MAX}) due("village " + v, x.gap(v), NONE);
  }

  private static void promise20() {
    Checks.says("How many DAYS a VILLAGE OWES another one. NONE (itself, too).");
    BorrowedDays x = new BorrowedDays();
    x.lend(0, 0, 3);
    due("it owes one", x.owes(3, 0), 1);
    due("it owes none", x.owes(0, 3), 0);
    for (int v = 0; v < 4; v++) due("itself", x.owes(v, v), NONE);
    for (int v : new int[] {-1, 4, MIN, MAX}) {
      due("village " + v, x.owes(v, 0), NONE);
      due("other " + v, x.owes(0, v), NONE);
      due("both " + v, x.owes(v, v), NONE);
    }
  }

  private static void promise21() {
    Checks.says("How many COPIES are not at home.");
    BorrowedDays x = new BorrowedDays();
    due("none", x.away(), 0);
    x.lend(0, 0, 1);
    due("the first", x.away(), 1);
    x.lend(3, 27, 1);
    due("the last", x.away(), 2);
    x.lend(3, 27, 2);
    due("with another one", x.away(), 2);
    x.lend(3, 27, 3);
    due("one less", x.away(), 1);
    x = Checks.allWith(new BorrowedDays(), 7);
    due("all but those of one", x.away(), 196);
    for (int day = 0; day < 28; day++) x.lend(7, day, 0);
    due("all", x.away(), 224);
  }

  private static void promise22() {
    Checks.says("A RING: how many VILLAGES (i NONE), the i-th. NONE (there is none, too).");
    BorrowedDays x = new BorrowedDays();
    for (int i : new int[] {-2, -1, 0, 1, MIN, MAX}) due("ring(" + i + "), there is none", x.ring(i), NONE);
    x.lend(1, 0, 3);
    x.lend(3, 0, 1);
    due("how many", x.ring(NONE), 2);
    due("ring(0)", x.ring(0), 1);
    due("ring(1)", x.ring(1), 3);
    for (int i : new int[] {2, -2, MIN, MAX}) due("ring(" + i + ")", x.ring(i), NONE);
    x.home(1, 0);
    due("there is none any more", x.ring(NONE), NONE);
    due("its first", x.ring(0), NONE);
  }

  private static void promise23() {
    Checks.says("EASTER on a DAY: the least COST (what 0), the DAWN (1), how many COPIES go (2). NONE.");
    BorrowedDays x = Checks.under("costs 7");
    x.lend(0, 0, 1);
    due("cost", x.easter(27, 0), 7);
    due("dawn", x.easter(27, 1), 27);
    due("copies", x.easter(27, 2), 1);
    due("the day behind the one lent", x.easter(1, 1), 1);
    due("the day lent", x.easter(0, 1), NONE);
    for (int what : new int[] {-1, 3, MIN, MAX}) due("what " + what, x.easter(27, what), NONE);
    for (int day : new int[] {-1, 28, MIN, MAX}) due("day " + day, x.easter(day, 0), NONE);
  }

  private static void promise24() {
    Checks.says("Of the i-th COPY that goes for EASTER who gives (what 0), who takes (1). NONE.");
    BorrowedDays x = new BorrowedDays();
    due("none goes", x.trade(27, 0, 0), NONE);
    due("none goes", x.trade(27, 0, 1), NONE);
    x.lend(0, 0, 2);
    x.lend(1, 0, 3);
    int[][] due = {{2, 0}, {3, 1}};
    for (int i = 0; i <= 1; i++) for (int what = 0; what <= 1; what++) due("trade(27, " + i + ", " + what + ")", x.trade(27, i, what), due[i][what]);
    for (int i : new int[] {2, -1, MIN, MAX}) for (int what = 0; what <= 1; what++) due("the copy " + i, x.trade(27, i, what), NONE);
    for (int what : new int[] {-1, 2, MIN, MAX}) due("what " + what, x.trade(27, 0, what), NONE);
    for (int day : new int[] {-1, 28, MIN, MAX}) due("day " + day, x.trade(day, 0, 0), NONE);
    due("no Easter", x.trade(0, 0, 0), NONE);
  }

  private static void promise25() {
    Checks.says("COST of the cheapest chain of trades from a VILLAGE to another one (itself: 0). NONE.");
    BorrowedDays x = Checks.under("costs 9");
    for (int v = 0; v < 4; v++) for (int w = 0; w < 4; w++) due("chain(" + v + ", " + w + ")", x.chain(v, w), v == w ? 0 : 9);
    for (int v : new int[] {-1, 4, MIN, MAX}) {
      due("from " + v, x.chain(v, 0), NONE);
      due("to " + v, x.chain(0, v), NONE);
      due("itself " + v, x.chain(v, v), NONE);
    }
    due("one village", Checks.villages(1).chain(0, 0), 0);
  }

  private static void promise26() {
    Checks.says("A BAD DAY, on paper: who holds it LAST (what 0), how often it went (1). NONE.");
    BorrowedDays x = new BorrowedDays();
    due("who", x.last(3, 27, 0), 2);
    due("how often", x.last(3, 27, 1), 3);
    due("it is on paper", x.of(3, 27, 0, 0), 3);
    for (int what : new int[] {-1, 2, MIN, MAX}) due("what " + what, x.last(0, 0, what), NONE);
    for (int v : new int[] {-1, 4, MIN, MAX}) due("owner " + v, x.last(v, 0, 0), NONE);
    for (int day : new int[] {-1, 28, MIN, MAX}) due("day " + day, x.last(0, day, 0), NONE);
  }

  private static void promise27() {
    Checks.says("behind how many ROUNDS they REST (weekday NONE; 51: still not), the PRICE of a WEEKDAY then. NONE.");
    BorrowedDays x = Checks.under("wants if price<10+weekday");
    due("rounds: weekday 6 rests last", x.price(NONE), 7);
    for (int w = 0; w <= 6; w++) due("weekday " + w, x.price(w), 10 + w);
    for (int w : new int[] {7, -2, MIN, MAX}) due("weekday " + w, x.price(w), NONE);
    due("the price that is first stays", x.count(12), 10);
    x = Checks.under("wants if weekday=6 and price<59; wants if weekday=6 and price=59 and held=29");
    due("rest in the 50th round", x.price(NONE), 50);
    x.lend(0, 0, 1);
    due("one more changes it in the 50th", x.price(NONE), 51);
    due("what it is then", x.price(6), 60);
    due("the others rest all the time", x.price(5), 10);
  }

  private static void promise28() {
    Checks.says("A DEED: how many there are. -1; -2; -5.");
    BorrowedDays x = new BorrowedDays();
    for (int dawn : new int[] {-1, 224, MIN, MAX}) due("dawn " + dawn, x.deed(0, dawn, 0), -1);
    for (int day : new int[] {-1, 28, MIN, MAX}) due("day " + day, x.deed(0, 0, day), -1);
    for (int v : new int[] {-1, 4, MIN, MAX}) due("village " + v, x.deed(v, 0, 0), -2);
    due("there are none", x.count(3), 0);
    int[][] good = {{0, 0, 0}, {3, 223, 27}, {3, 223, 27}};
    for (int i = 0; i < 3; i++) due("deed " + i, x.deed(good[i][0], good[i][1], good[i][2]), i + 1);
    for (int i = 3; i < 10; i++) due("deed " + i, x.deed(0, 0, 0), i + 1);
    due("status", x.status(), 0);
    due("the eleventh", x.deed(0, 0, 0), -5);
    int[] counts = {8, 4, 0, 1, 0};
    for (int i = 0; i < 5; i++) due("count(" + (6 + i) + ")", x.count(6 + i), counts[i]);
  }

  private static void promise29() {
    Checks.says("A DEED goes, those behind it move up: how many are left. -2.");
    BorrowedDays x = new BorrowedDays();
    for (int d : new int[] {-1, 0, 1, MIN, MAX}) due("burn(" + d + ") without deeds", x.burn(d), -2);
    // those of an odd number are forged
    for (int i = 0; i < 10; i++) x.deed(0, i + i % 2, i);
    for (int d : new int[] {-1, 10, MIN, MAX}) due("burn(" + d + ") of ten", x.burn(d), -2);
    due("the last", x.burn(9), 9);
    due("it is gone", x.burn(9), -2);
    due("four are forged", x.forged(NONE), 4);
    due("the first", x.burn(0), 8);
    for (int i = 0; i < 4; i++) due("the " + i + "th moved up", x.forged(i), 2 * i);
    due("one between", x.burn(2), 7);
    int[] forged = {0, 3, 5};
    for (int i = 0; i < 3; i++) due("the " + i + "th moved up", x.forged(i), forged[i]);
    for (int left = 6; left >= 0; left--) due("the first", x.burn(0), left);
    due("none is left", x.burn(0), -2);
  }

  private static void promise30() {
    Checks.says("How many DEEDS are FORGED (i NONE); which the i-th is. NONE.");
    BorrowedDays x = new BorrowedDays();
    due("no deed, how many", x.forged(NONE), 0);
    due("no deed, the first", x.forged(0), NONE);
    x.deed(0, 0, 0);
    due("none is, how many", x.forged(NONE), 0);
    due("none is, the first", x.forged(0), NONE);
    for (int i = 1; i < 10; i++) x.deed(0, 0, 1);
    due("nine are", x.forged(NONE), 9);
    due("the first", x.forged(0), 1);
    due("the last", x.forged(8), 9);
    for (int i : new int[] {9, 10, -2, MIN, MAX}) due("forged(" + i + ")", x.forged(i), NONE);
  }

  private static void promise31() {
    Checks.says("LOANS that EXPLAIN: how many (what 0), OWNER (1), DAY (2), VILLAGE (3) of the first. NONE (none, for 1 .. 3).");
    BorrowedDays x = new BorrowedDays();
    x.deed(3, 28, 27);
    x.deed(3, 27, 26);
    // a copy of a day 0 .. 26 that comes to village 3
    due("how many", x.explains(0), 81);
    int[] first = {0, 0, 3};
    for (int what = 1; what <= 3; what++) due("explains(" + what + ")", x.explains(what), first[what - 1]);
    for (int what : new int[] {-1, 4, MIN, MAX}) due("explains(" + what + ")", x.explains(what), NONE);
    x.deed(0, 223, 27);
    due("none, how many", x.explains(0), 0);
    for (int what = 1; what <= 3; what++) due("none, explains(" + what + ")", x.explains(what), NONE);
  }

  private static void promise32() {
    Checks.says("A YEAR, n 1 .. 60, kept as the latest: how many COPIES went. -1.");
    BorrowedDays x = new BorrowedDays();
    int[][] bad = {{0, 0}, {0, 61}, {0, -1}, {0, MIN}, {0, MAX}, {-1, 1}, {1000001, 1}, {MIN, 1}, {MAX, 1}, {-1, 0}, {1000001, 61}};
    for (int[] b : bad) due("year(" + b[0] + ", " + b[1] + ")", x.year(b[0], b[1]), -1);
    due("how many were refused", x.count(6), bad.length);
    due("none is kept", x.drawn(0, 0), NONE);
    due("year(1000000, 1)", x.year(1000000, 1), 1);
    due("status", x.status(), 0);
    due("it is kept", x.drawn(2, 0), 29);
    for (int[] b : bad) x.year(b[0], b[1]);
    due("one that was refused is not", x.drawn(2, 0), 29);
    due("year(0, 1), none goes", x.year(0, 1), 0);
    due("it is the latest", x.drawn(2, 0), 28);
    due("year(0, 60)", x.year(0, 60) >= 1 ? 1 : 0, 1);
    due("nothing went but on paper", x.away(), 0);
  }

  private static void promise33() {
    Checks.says("Of the latest YEAR how many COPIES a VILLAGE holds in the end (what 0), how many of its own are away (1). NONE.");
    BorrowedDays x = Checks.villages(2);
    for (int v = -1; v <= 2; v++) for (int what = 0; what <= 1; what++) due("ahead of any", x.drawn(v, what), NONE);
    for (int day = 0; day < 28; day++) x.lend(0, day, 1);
    Checks.law(x, "bars");
    x.force(0);
    x.year(0, 60);
    int[][] due = {{0, 28}, {56, 0}};
    for (int v = 0; v <= 1; v++) for (int what = 0; what <= 1; what++) due("drawn(" + v + ", " + what + ")", x.drawn(v, what), due[v][what]);
    for (int v : new int[] {-1, 2, 8, MIN, MAX}) for (int what = 0; what <= 1; what++) due("village " + v, x.drawn(v, what), NONE);
    for (int what : new int[] {-1, 2, MIN, MAX}) due("what " + what, x.drawn(0, what), NONE);
    x.home(0, 0);
    due("what is lent later does not matter", x.drawn(0, 0), 0);
    x = Checks.villages(8);
    x.year(0, 1);
    due("the eighth village", x.drawn(7, 0), 28);
    due("a ninth village", x.drawn(8, 0), NONE);
  }

  private static void promise34() {
    Checks.says("IMAGE k is kept: 0; -1.");
    BorrowedDays x = new BorrowedDays();
    for (int k : new int[] {-1, 2, MIN, MAX}) {
      due("image(" + k + ")", x.image(k), -1);
      due("status", x.status(), -1);
    }
    for (int k = 0; k <= 1; k++) {
      due("image(" + k + ")", x.image(k), 0);
      due("status", x.status(), 0);
    }
    due("how many were refused", x.count(6), 4);
  }

  private static void promise35() {
    Checks.says("BACK to IMAGE k: 0. -1; -2 it was not kept.");
    BorrowedDays x = new BorrowedDays();
    for (int k : new int[] {-1, 2, MIN, MAX}) due("back(" + k + ")", x.back(k), -1);
    for (int k = 0; k <= 1; k++) due("back(" + k + ")", x.back(k), -2);
    x.image(1);
    x.rain(0, 1);
    due("back(0)", x.back(0), -2);
    due("nothing went back", x.count(1), 1);
    due("back(1)", x.back(1), 0);
    due("status", x.status(), 0);
    due("it went back", x.count(1), 0);
    due("refused by -1: images do not keep that", x.count(6), 4);
    due("refused by -2: images do not keep that", x.count(7), 3);
  }

  private static void promise36() {
    Checks.says("NONE for others.");
    BorrowedDays x = new BorrowedDays();
    for (int what : new int[] {-1, 13, 14, MIN, MAX}) due("count(" + what + ")", x.count(what), NONE);
    Checks.says("6 .. 10 how many calls were REFUSED by -1, -2, -3, -5, -6 (IMAGES do not keep that),");
    x.image(0);
    x.rain(28, 0);
    for (int i = 0; i < 2; i++) x.burn(0);
    for (int i = 0; i < 3; i++) x.undo();
    for (int i = 0; i < 14; i++) x.deed(0, 0, 0);
    for (int i = 0; i < 5; i++) x.row();
    int[] refused = {1, 2, 3, 4, 5};
    for (int i = 0; i < 5; i++) due("count(" + (6 + i) + ")", x.count(6 + i), refused[i]);
    x.back(0);
    for (int i = 0; i < 5; i++) due("behind back, count(" + (6 + i) + ")", x.count(6 + i), refused[i]);
    Checks.says("0 VILLAGES, 1 RAINY DAYS, 2 LAWS, 3 DEEDS, 4 how many can be undone, 5 bytes of the TAPE,");
    int[] counts = {4, 0, 0, 0, 0, 0};
    for (int i = 0; i < 6; i++) due("count(" + i + ")", x.count(i), counts[i]);
    due("the law in force", x.count(11), NONE);
    due("the price", x.count(12), 10);
  }

  // ---- the calls that status tells of ----

  private static final int CALLS = 13;

  private static int refused(BorrowedDays x, int k) {
    switch (k) {
      case 0: return x.terms(2, 0);
      case 1: return x.rain(0, 2);
      case 2: return x.row();
      case 3: return x.law();
      case 4: return x.force(7);
      case 5: return x.lend(0, 0, 0);
      case 6: return x.home(0, 0);
      case 7: return x.undo();
      case 8: return x.deed(4, 0, 0);
      case 9: return x.burn(0);
      case 10: return x.year(0, 0);
      case 11: return x.image(2);
      default: return x.back(1);
    }
  }

  private static void taken(BorrowedDays x, int k) {
    switch (k) {
      case 0: x.terms(0, 4); break;
      case 1: x.rain(0, 1); break;
      case 2: x.feed(0, 0, 0, 0, 0); x.row(); break;
      case 3: Checks.law(x, "bars"); break;
      case 4: x.force(NONE); break;
      case 5: x.lend(0, 0, 1); break;
      case 6: x.lend(0, 0, 1); refused(x, 2); x.home(0, 0); break;
      case 7: x.lend(0, 0, 1); refused(x, 2); x.undo(); break;
      case 8: x.deed(0, 0, 0); break;
      case 9: x.deed(0, 0, 0); refused(x, 2); x.burn(0); break;
      case 10: x.year(0, 1); break;
      case 11: x.image(0); break;
      default: x.image(0); refused(x, 2); x.back(0); break;
    }
  }

  /** Calls that are wrong as well, but of which status does not tell. */
  private static void others(BorrowedDays x) {
    x.feed(0, 0, 0, 0, 0); x.end(99); x.end(0); x.fog(); x.fault(); x.of(9, 9, 9, 9); x.live(9, 9, 9); x.when(9, 99, 9); x.age(9, 99, 999);
    x.wages(9, 999); x.gap(9); x.owes(9, 9); x.away(); x.ring(99); x.easter(99, 9); x.trade(99, 9, 9); x.chain(9, 9); x.last(9, 99, 9);
    x.price(9); x.forged(99); x.explains(9); x.drawn(9, 9); x.count(99); x.status();
  }

  private static void promise37() {
    Checks.says("What the latest call of terms, rain, row, law, force, lend, home, undo, deed, burn, year, image, back was REFUSED by; 0 if it was not, or ahead of any.");
    int[] why = {-1, -1, -6, -6, -2, -3, -3, -3, -2, -2, -1, -1, -2};
    for (int k = 0; k < CALLS; k++) {
      BorrowedDays x = new BorrowedDays();
      due("ahead of any", x.status(), 0);
      others(x);
      due("behind others", x.status(), 0);
      due("the call " + k, refused(x, k), why[k]);
      due("status of the call " + k, x.status(), why[k]);
      others(x);
      due("status behind others", x.status(), why[k]);
      taken(x, k);
      due("the call " + k + " was not refused", x.status(), 0);
      others(x);
      due("status behind others", x.status(), 0);
    }
  }

  public static void main(String[] args) {
    promise1();
    promise2();
    promise3();
    promise4();
    promise5();
    promise6();
    promise7();
    promise8();
    promise9();
    promise10();
    promise11();
    promise12();
    promise13();
    promise14();
    promise15();
    promise16();
    promise17();
    promise18();
    promise19();
    promise20();
    promise21();
    promise22();
    promise23();
    promise24();
    promise25();
    promise26();
    promise27();
    promise28();
    promise29();
    promise30();
    promise31();
    promise32();
    promise33();
    promise34();
    promise35();
    promise36();
    promise37();
    Checks.end();
  }
}
