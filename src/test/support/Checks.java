/** What the tests of bounds share: the sentence of the document, and the answers that are due by it. */
final class Checks {
  static final int NONE = -1;
  static final int NOTHING = -1000000;
  private static String sentence = "";
  private static int asked = 0;
  private static int wrong = 0;

  private Checks() { }

  /** The checks behind this one are of these words of the document. */
  static void says(String words) {
    sentence = words;
  }

  static void due(String what, int got, int want) {
    asked++;
    if (got != want) {
      wrong++;
      System.out.println("'" + sentence + "': " + what + " answered " + got + ", due is " + want);
    }
  }

  static void end() {
    System.out.println(wrong == 0 ? asked + " answers are as due" : wrong + " answers are not as due");
    if (wrong != 0 || asked == 0) System.exit(1);
  }

  // ---- objects to begin with ----

  static BorrowedDays villages(int n) {
    BorrowedDays x = new BorrowedDays();
    x.terms(0, n);
    return x;
  }

  /** A new object with this law in force. */
  static BorrowedDays under(String text) {
    BorrowedDays x = new BorrowedDays();
    due("law '" + text + "'", law(x, text), 0);
    x.force(0);
    return x;
  }

  /** Eight villages; one of them holds all 224 copies. */
  static BorrowedDays allWith(BorrowedDays x, int village) {
    x.terms(0, 8);
    for (int owner = 0; owner < 8; owner++) for (int day = 0; day < 28; day++) if (owner != village) x.lend(owner, day, village);
    return x;
  }

  // ---- the tape ----

  static void tape(BorrowedDays x, String text) {
    for (int at = 0; at < text.length(); at += 20) {
      int[] five = new int[5];
      for (int i = 0; i < 20; i++) five[i / 4] = five[i / 4] << 8 | (at + i < text.length() ? text.charAt(at + i) : ' ');
      x.feed(five[0], five[1], five[2], five[3], five[4]);
    }
    x.end(text.length());
  }

  static int law(BorrowedDays x, String text) {
    tape(x, text);
    return x.law();
  }

  static void good(String text) {
    faultAt(text, NONE);
  }

  static void faultAt(String text, int place) {
    BorrowedDays x = new BorrowedDays();
    due("law '" + text + "'", law(x, text), place == NONE ? 0 : -6);
    due("fault of '" + text + "'", x.fault(), place);
  }

  // ---- what a law tells ----

  /** Of the copy that village 0 has of day 9, a weekday 2. */
  static void pays(String text, int pay) {
    due("pay under '" + text + "'", under(text).of(0, 9, 0, 2), pay);
  }

  /** Village 2 from the copy that village 1 has of day 9. */
  static void bars(String text, boolean is) {
    due("barred under '" + text + "'", under(text).of(1, 9, 2, 1), is ? 1 : 0);
  }

  /** A trade from village 1 to village 0, where no way round is cheaper. */
  static void costs(String text, int cost) {
    BorrowedDays x = under(text);
    x.terms(0, 2);
    due("cost under '" + text + "'", x.chain(1, 0), cost);
  }

  static String times(int n, String part) {
    return part.repeat(n);
  }
}
