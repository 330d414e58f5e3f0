import java.util.ArrayList;
import java.util.Arrays;
import java.util.LinkedHashSet;
import java.util.List;
import java.util.Random;
import java.util.Set;
import java.util.TreeSet;

/**
 * FAULT is "the first TOKEN that can't go on there": drawn texts, held against all that can still come
 * by the document's grammar (rows of signs, one for each way to go on) and not against a reader.
 */
public final class FaultPlaces {
  private static final int TEXTS = 3000;

  /**
   * What a sign stands for; small ones are tokens: h "pays", "costs"; b the heads without a SUM; i "if";
   * o "or"; n "and"; ! "not"; c "<", ">", "="; a "+", "-"; m "*", "/"; p a NUMBER, a word.
   */
  private static final String[] GRAMMAR = {
    "L=CD", "D=", "D=;CD", "C=hSI", "C=bI", "I=", "I=iT", "T=BU", "U=", "U=oBU", "B=PV", "V=", "V=nPV",
    "P=!P", "P=(T)", "P=ScS", "S=RW", "W=", "W=aRW", "R=QX", "X=", "X=mQX", "Q=p", "Q=[S]"};

  private static final String KINDS = "hbion!()[];camp?";

  private static final String[][] TOKENS = {
    {"pays", "costs"}, {"bars", "wants", "sells"}, {"if"}, {"or"}, {"and"}, {"not"}, {"("}, {")"}, {"["}, {"]"}, {";"},
    {"<", ">", "="}, {"+", "-"}, {"*", "/"},
    {"owner", "holder", "to", "day", "weekday", "rain", "held", "price", "0", "7", "12", "999", "1000", "0001000"},
    {"1001", "4294967296", "99999999999999999999", "pay", "payss", "toto", "ifx", "A", "{", ",", ".", "?", "\u0000", "\t", "\u00e9", "\u00ff"}};

  /** What can still come of a text that is read up to a place. */
  private static final class Way {
    private Set<String> rest = new LinkedHashSet<>(List.of("L"));
    private int clauses = 0;
    private int parts = 0;
    private int brackets = 0;

    Way() { rest = opened(rest); }

    private static boolean isToken(String s) { return s.isEmpty() || KINDS.indexOf(s.charAt(0)) >= 0; }

    private static Set<String> opened(Set<String> from) {
      Set<String> all = new LinkedHashSet<>();
      List<String> open = new ArrayList<>(from);
      for (int i = 0; i < open.size(); i++) {
        String s = open.get(i);
        if (isToken(s)) { all.add(s); continue; }
        for (String rule : GRAMMAR) if (rule.charAt(0) == s.charAt(0)) open.add(rule.substring(2) + s.substring(1));
      }
      return all;
    }

    Set<Character> next() {
      Set<Character> all = new TreeSet<>();
      for (String s : rest) if (!s.isEmpty()) all.add(s.charAt(0));
      return all;
    }

    boolean canEnd() { return rest.contains(""); }

    boolean goesOn(char kind) {
      if (!next().contains(kind)) return false;
      if (kind == 'h' || kind == 'b') clauses++;
      if (kind == 'p') parts++;
      if (kind == '(' || kind == '[') brackets++;
      if (kind == ')' || kind == ']') brackets--;
      if (clauses > 12 || parts > 50 || brackets > 8) return false;
      Set<String> behind = new LinkedHashSet<>();
      for (String s : rest) if (!s.isEmpty() && s.charAt(0) == kind) behind.add(s.substring(1));
      rest = opened(behind);
      return true;
    }
  }

  /** The tokens of a text as they were drawn, and where each of them stands. */
  private final StringBuilder text = new StringBuilder();
  private final List<Integer> places = new ArrayList<>();
  private final StringBuilder kinds = new StringBuilder();
  private final Random random;

  private FaultPlaces(long seed) { random = new Random(seed); }

  private static boolean letter(char c) { return c >= 'a' && c <= 'z'; }
  private static boolean digit(char c) { return c >= '0' && c <= '9'; }

  private void add(char kind) {
    String[] all = TOKENS[KINDS.indexOf(kind)];
    String token = all[random.nextInt(all.length)];
    char last = text.length() == 0 ? ';' : text.charAt(text.length() - 1);
    char first = token.charAt(0);
    boolean oneRow = letter(last) && letter(first) || digit(last) && digit(first);
    String gap = " ".repeat(oneRow ? 1 : random.nextInt(5) == 0 ? 1 + random.nextInt(3) : 0);
    if (text.length() + gap.length() + token.length() > 400) return;
    text.append(gap);
    places.add(text.length());
    text.append(token);
    kinds.append(kind);
  }

  private char draw(Way way, boolean alive, double faith) {
    Set<Character> next = way.next();
    if (!alive || next.isEmpty() || random.nextDouble() >= faith) return KINDS.charAt(random.nextInt(KINDS.length()));
    if (next.contains('p') && random.nextInt(3) == 0) return 'p';
    List<Character> all = new ArrayList<>(next);
    return all.get(random.nextInt(all.size()));
  }

  private void drawText() {
    Way way = new Way();
    boolean alive = true;
    double faith = List.of(0.8, 0.93, 0.98, 1.0).get(random.nextInt(4));
    int most = List.of(3, 6, 10, 20, 40, 80, 130).get(random.nextInt(7));
    for (int i = 0; i < most; i++) {
      char kind = draw(way, alive, faith);
      int before = kinds.length();
      add(kind);
      alive = alive && kinds.length() > before && way.goesOn(kind);
    }
    while (random.nextInt(6) == 0 && text.length() < 400) text.append(' ');
  }

  private void addAll(String row) {
    for (char kind : row.toCharArray()) add(kind);
  }

  /** On the bounds that the document names, one below them and one above them. */
  private void drawBound() {
    int over = random.nextInt(3) - 1;
    int some = random.nextInt(9);
    switch (random.nextInt(5)) {
      case 0: addAll("b;".repeat(11 + over) + (random.nextInt(2) == 0 ? "b" : "hp")); break;
      case 1: addAll("hp" + "ap".repeat(49 + over)); break;
      case 2: addAll("bi" + "(".repeat(some) + "[".repeat(8 + over - some < 0 ? 0 : 8 + over - some) + "p"); break;
      case 3: addAll("h" + "pa".repeat(some) + "?"); break;
      default: addAll("bi" + "(pcp)n".repeat(some) + "(".repeat(8 + over) + "pcp" + ")".repeat(8 + over));
    }
    if (random.nextInt(2) == 0) add(KINDS.charAt(random.nextInt(KINDS.length())));
  }

  private int due() {
    Way way = new Way();
    for (int i = 0; i < kinds.length(); i++) if (!way.goesOn(kinds.charAt(i))) return places.get(i);
    return way.canEnd() ? -1 : text.length();
  }

  private boolean isDue() {
    BorrowedDays x = new BorrowedDays();
    int law = Checks.law(x, text.toString());
    int due = due();
    if (x.fault() == due && law == (due == -1 ? 0 : -6)) return true;
    System.out.println("law '" + text + "' answered " + law + ", fault " + x.fault() + "; the first TOKEN that can't go on there: " + due);
    return false;
  }

  public static void main(String[] args) {
    int wrong = 0;
    int[] found = new int[2];
    for (int seed = 0; seed < TEXTS; seed++) {
      FaultPlaces drawn = new FaultPlaces(seed);
      if (seed % 10 == 0) drawn.drawBound(); else drawn.drawText();
      if (!drawn.isDue()) wrong++;
      found[drawn.due() == -1 ? 0 : 1]++;
    }
    if (found[0] < TEXTS / 20 || found[1] < TEXTS / 20) {
      wrong++;
      System.out.println("too few of a kind were drawn: " + Arrays.toString(found));
    }
    System.out.println(wrong == 0 ? found[0] + " laws, " + found[1] + " faults are where they are due" : wrong + " faults");
    if (wrong != 0) System.exit(1);
  }
}
