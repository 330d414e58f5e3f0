import java.util.ArrayDeque;
import java.util.ArrayList;
import java.util.Arrays;
import java.util.List;
import java.util.Random;

/**
 * Long runs of drawn calls, each answer held against a second program that is written from the
 * document in another way: lists that are made anew, trees of laws, all rows of takers tried.
 */
public final class ModelRuns {
  static final int NONE = -1;
  static final int NOTHING = -1000000;
  private static final int RUNS = 600;

  // ---- laws as trees ----

  static final class Broken extends RuntimeException {
    private static final long serialVersionUID = 1L;
  }

  static final class Fault extends RuntimeException {
    private static final long serialVersionUID = 1L;
    final int at;
    Fault(int at) { this.at = at; }
  }

  record Token(String text, int at) { }

  record Node(String kind, int number, Node left, Node right) {
    static Node of(String kind, Node left, Node right) { return new Node(kind, 0, left, right); }
  }

  record Clause(String head, Node sum, Node test) { }

  static final class Parser {
    final List<Token> tokens = new ArrayList<>();
    int at = 0;
    int parts = 0;

    Parser(String text) {
      int i = 0;
      while (i < text.length()) {
        int j = i + 1;
        char c = text.charAt(i);
        if (c == ' ') { i++; continue; }
        if (letter(c)) { while (j < text.length() && letter(text.charAt(j))) j++; }
        if (digit(c)) { while (j < text.length() && digit(text.charAt(j))) j++; }
        tokens.add(new Token(text.substring(i, j), i));
        i = j;
      }
      tokens.add(new Token("", text.length()));
    }

    static boolean letter(char c) { return "abcdefghijklmnopqrstuvwxyz".indexOf(c) >= 0; }
    static boolean digit(char c) { return "0123456789".indexOf(c) >= 0; }
    String look() { return tokens.get(at).text(); }
    Fault fault() { return new Fault(tokens.get(at).at()); }
    boolean take(String s) { if (look().equals(s)) { at++; return true; } return false; }
    void need(String s) { if (!take(s)) throw fault(); }

    List<Clause> law() {
      List<Clause> all = new ArrayList<>();
      do {
        if (all.size() == 12) throw fault();
        all.add(clause());
      } while (take(";"));
      if (!look().isEmpty()) throw fault();
      return all;
    }

    Clause clause() {
      String head = look();
      if (!List.of("pays", "costs", "bars", "wants", "sells").contains(head)) throw fault();
      at++;
      Node sum = head.equals("pays") || head.equals("costs") ? sum(0) : null;
      Node test = take("if") ? test(0) : null;
      return new Clause(head, sum, test);
    }

    Node test(int deep) {
      Node left = both(deep);
      while (take("or")) left = Node.of("or", left, both(deep));
      return left;
    }

    Node both(int deep) {
      Node left = plain(deep);
      while (take("and")) left = Node.of("and", left, plain(deep));
      return left;
    }

    Node plain(int deep) {
      if (take("not")) return Node.of("not", plain(deep), null);
      if (look().equals("(")) {
        if (deep == 8) throw fault();
        at++;
        Node inner = test(deep + 1);
        need(")");
        return inner;
      }
      Node left = sum(deep);
      String sign = look();
      if (!sign.equals("<") && !sign.equals(">") && !sign.equals("=")) throw fault();
      at++;
      return Node.of(sign, left, sum(deep));
    }

    Node sum(int deep) {
      Node left = term(deep);
      while (look().equals("+") || look().equals("-")) {
        String sign = look();
        at++;
        left = Node.of(sign, left, term(deep));
      }
      return left;
    }

    Node term(int deep) {
      Node left = part(deep);
      while (look().equals("*") || look().equals("/")) {
        String sign = look();
        at++;
        left = Node.of(sign, left, part(deep));
      }
      return left;
    }

    Node part(int deep) {
      String t = look();
      if (t.equals("[")) {
        if (deep == 8) throw fault();
        at++;
        Node inner = sum(deep + 1);
        need("]");
        return inner;
      }
      boolean number = !t.isEmpty() && digit(t.charAt(0));
      if (!number && !List.of("owner", "holder", "to", "day", "weekday", "rain", "held", "price").contains(t)) throw fault();
      if (number && new java.math.BigInteger(t).compareTo(java.math.BigInteger.valueOf(1000)) > 0) throw fault();
      if (++parts > 50) throw fault();
      at++;
      return new Node(number ? "number" : t, number ? Integer.parseInt(t) : 0, null, null);
    }
  }

  record Asked(int owner, int holder, int to, int day, int weekday, int rain, int held, int price) { }

  static long sum(Node n, Asked a) {
    long got;
    switch (n.kind()) {
      case "number": return n.number();
      case "owner": return a.owner();
      case "holder": return a.holder();
      case "to": return a.to();
      case "day": return a.day();
      case "weekday": return a.weekday();
      case "rain": return a.rain();
      case "held": return a.held();
      case "price": return a.price();
      case "+": got = sum(n.left(), a) + sum(n.right(), a); break;
      case "-": got = sum(n.left(), a) - sum(n.right(), a); break;
      case "*": got = sum(n.left(), a) * sum(n.right(), a); break;
      default:
        long over = sum(n.left(), a);
        long under = sum(n.right(), a);
        if (under == 0) throw new Broken();
        got = over / under;
    }
    if (Math.abs(got) > 1000000000L) throw new Broken();
    return got;
  }

  static boolean test(Node n, Asked a) {
    switch (n.kind()) {
      case "or": return test(n.left(), a) || test(n.right(), a);
      case "and": return test(n.left(), a) && test(n.right(), a);
      case "not": return !test(n.left(), a);
      case "<": return sum(n.left(), a) < sum(n.right(), a);
      case ">": return sum(n.left(), a) > sum(n.right(), a);
      default: return sum(n.left(), a) == sum(n.right(), a);
    }
  }

  // ---- the state ----

  static final class Kept {
    int n = 4;
    int price = 10;
    boolean[] rainy = new boolean[28];
    int[][] holder = new int[8][28];
    List<List<Clause>> laws = new ArrayList<>();
    int force = NONE;
    ArrayDeque<int[]> loans = new ArrayDeque<>();
    List<int[]> deeds = new ArrayList<>();

    Kept() { for (int o = 0; o < 8; o++) Arrays.fill(holder[o], o); }

    Kept copy() {
      Kept k = new Kept();
      k.n = n;
      k.price = price;
      k.rainy = rainy.clone();
      for (int o = 0; o < 8; o++) k.holder[o] = holder[o].clone();
      k.laws = new ArrayList<>(laws);
      k.force = force;
      k.loans = new ArrayDeque<>(loans);
      k.deeds = new ArrayList<>(deeds);
      return k;
    }
  }

  static final class Model {
    Kept k = new Kept();
    Kept[] images = new Kept[2];
    StringBuilder tape = new StringBuilder();
    int fog = 0;
    int fault = NONE;
    int status = 0;
    int[] refused = new int[7];
    int[][] year = null;
    int yearN = 0;

    int no(int why) { status = why; refused[-why]++; return why; }
    int yes(int what) { status = 0; return what; }
    boolean v(int x) { return x >= 0 && x < k.n; }
    boolean d(int x) { return x >= 0 && x <= 27; }

    int held(int[][] holder, int v) {
      int c = 0;
      for (int o = 0; o < k.n; o++) for (int h : holder[o]) if (h == v) c++;
      return c;
    }

    Integer told(String head, Asked a) {
      Integer last = null;
      if (k.force == NONE) return null;
      for (Clause c : k.laws.get(k.force)) {
        if (!c.head().equals(head)) continue;
        try {
          if (c.test() != null && !test(c.test(), a)) continue;
          last = c.sum() == null ? 1 : (int) sum(c.sum(), a);
        } catch (Broken b) {
          continue;
        }
      }
      return last;
    }

    int pays(int o, int d) {
      Integer t = told("pays", new Asked(o, k.holder[o][d], -1, d, d % 7, k.rainy[d] ? 1 : 0, 0, -1));
      return t == null ? 1 : t > 99 ? 99 : t < -99 ? -99 : t;
    }

    int costs(int holder, int to) {
      Integer t = told("costs", new Asked(-1, holder, to, -1, -1, -1, held(k.holder, to), -1));
      return t == null ? 1 : t > 99 ? 99 : t < 0 ? 0 : t;
    }

    boolean barred(int o, int holder, int to, int d, int held) {
      return told("bars", new Asked(o, holder, to, d, d % 7, k.rainy[d] ? 1 : 0, held, -1)) != null;
    }

    /** The copies that a village holds, as {day, owner}, in the order it lives through them. */
    List<int[]> line(int[][] holder, int v) {
      List<int[]> all = new ArrayList<>();
      for (int d = 0; d < 28; d++) for (int o = 0; o < k.n; o++) if (holder[o][d] == v) all.add(new int[] {d, o});
      return all;
    }

    int terms(int what, int value) {
      if (what == 1) {
        if (value < 1 || value > 99) return no(-1);
        int was = k.price;
        k.price = value;
        return yes(was);
      }
      if (what != 0 || value < 1 || value > 8) return no(-1);
      int was = k.n;
      for (int v = was; v < value; v++) Arrays.fill(k.holder[v], v);
      for (int v = value; v < was; v++) for (int o = 0; o < 8; o++) for (int d = 0; d < 28; d++) if (k.holder[o][d] == v) k.holder[o][d] = o;
      k.n = value;
      k.loans.clear();
      k.deeds.clear();
      return yes(was);
    }

    int rain(int day, int is) {
      if (!d(day) || (is != 0 && is != 1)) return no(-1);
      int was = k.rainy[day] ? 1 : 0;
      k.rainy[day] = is == 1;
      return yes(was);
    }

    int feed(int... five) {
      if (tape.length() > 380) return NONE;
      for (int x : five) tape.append((char) (x >>> 24)).append((char) (x >> 16 & 255)).append((char) (x >> 8 & 255)).append((char) (x & 255));
      return tape.length();
    }

    int end(int n) {
      if (n < 0 || n > tape.length()) return NONE;
      tape.setLength(n);
      return n;
    }

    int row() {
      if (tape.length() == 0) return no(-6);
      int before = count(1);
      fog = 0;
      for (char c : tape.toString().toCharArray()) if (c < 28) k.rainy[c] = true; else fog++;
      tape.setLength(0);
      return yes(count(1) - before);
    }

    int law() {
      String text = tape.toString();
      tape.setLength(0);
      if (k.laws.size() == 6) return no(-5);
      try {
        k.laws.add(new Parser(text).law());
      } catch (Fault f) {
        fault = f.at;
        return no(-6);
      }
      fault = NONE;
      return yes(k.laws.size() - 1);
    }

    int force(int law) {
      if (law != NONE && (law < 0 || law >= k.laws.size())) return no(-2);
      int was = k.force;
      k.force = law;
      return yes(was);
    }

    int of(int o, int d, int to, int what) {
      if (!v(o) || !d(d) || what < 0 || what > 2 || what == 1 && !v(to)) return NOTHING;
      if (what == 0) return k.holder[o][d];
      return what == 2 ? pays(o, d) : barred(o, k.holder[o][d], to, d, held(k.holder, to)) ? 1 : 0;
    }

    int lend(int o, int d, int to) {
      if (!d(d)) return no(-1);
      if (!v(o) || !v(to)) return no(-2);
      if (k.holder[o][d] == to || of(o, d, to, 1) == 1) return no(-3);
      return yes(moved(o, d, to));
    }

    int moved(int o, int d, int to) {
      int was = k.holder[o][d];
      k.loans.push(new int[] {o, d, was});
      if (k.loans.size() > 32) k.loans.removeLast();
      k.holder[o][d] = to;
      return was;
    }

    int home(int o, int d) {
      if (!d(d)) return no(-1);
      if (!v(o)) return no(-2);
      if (k.holder[o][d] == o) return no(-3);
      return yes(moved(o, d, o));
    }

    int undo() {
      if (k.loans.isEmpty()) return no(-3);
      int[] l = k.loans.pop();
      k.holder[l[0]][l[1]] = l[2];
      return yes(l[0]);
    }

    int live(int v, int dawn, int what) {
      if (!v(v)) return NONE;
      List<int[]> line = line(k.holder, v);
      if (dawn == NONE) return line.size();
      return dawn < 0 || dawn >= line.size() || what < 0 || what > 1 ? NONE : line.get(dawn)[what];
    }

    int when(int v, int day, int what) {
      if (!v(v) || !d(day) || what < 0 || what > 1) return NONE;
      int first = NONE, often = 0, at = 0;
      for (int[] c : line(k.holder, v)) {
        if (c[0] == day) { often++; if (first == NONE) first = at; }
        at++;
      }
      return what == 0 ? first : often;
    }

    int age(int v, int day, int dawn) {
      if (!v(v) || !d(day) || dawn < 0 || dawn > 224) return NONE;
      return (int) line(k.holder, v).stream().limit(dawn).filter(c -> c[0] == day).count();
    }

    int wages(int v, int dawn) {
      if (!v(v) || dawn < 0 || dawn > 224) return NOTHING;
      return line(k.holder, v).stream().limit(dawn).mapToInt(c -> pays(c[1], c[0])).sum();
    }

    int gap(int v) {
      if (!v(v)) return NONE;
      StringBuilder s = new StringBuilder();
      for (int d = 0; d < 28; d++) s.append(when(v, d, 1) == 0 ? 'x' : ' ');
      int most = 0;
      for (String part : s.toString().split(" +")) most = Math.max(most, part.length());
      return most;
    }

    int owes(int v, int other) {
      if (!v(v) || !v(other) || v == other) return NONE;
      return (int) line(k.holder, v).stream().filter(c -> c[1] == other).count();
    }

    int away() {
      int c = 0;
      for (int o = 0; o < k.n; o++) for (int v = 0; v < k.n; v++) if (v != o) c += owes(v, o);
      return c;
    }

    List<Integer> bestRing;

    int ring(int i) {
      bestRing = null;
      for (int v = 0; v < k.n; v++) rings(new ArrayList<>(List.of(v)));
      if (bestRing == null) return NONE;
      if (i == NONE) return bestRing.size();
      return i < 0 || i >= bestRing.size() ? NONE : bestRing.get(i);
    }

    void rings(List<Integer> line) {
      if (line.size() > 1 && owes(line.get(line.size() - 1), line.get(0)) > 0 && (bestRing == null || before(line, bestRing))) bestRing = new ArrayList<>(line);
      for (int v = line.get(0) + 1; v < k.n; v++) {
        if (line.contains(v) || owes(line.get(line.size() - 1), v) < 1) continue;
        line.add(v);
        rings(line);
        line.remove(line.size() - 1);
      }
    }

    static boolean before(List<Integer> a, List<Integer> b) {
      if (a.size() != b.size()) return a.size() < b.size();
      int x = a.stream().mapToInt(v -> 1 << v).sum(), y = b.stream().mapToInt(v -> 1 << v).sum();
      return x != y ? x < y : a.toString().compareTo(b.toString()) < 0;
    }

    /** Bellman's way: as many rounds of trades as there are villages. */
    int chain(int from, int to) {
      if (!v(from) || !v(to)) return NONE;
      return costsFrom(from)[to];
    }

    int[] costsFrom(int from) {
      int[] far = new int[k.n];
      Arrays.fill(far, 1 << 20);
      far[from] = 0;
      int[][] one = new int[k.n][k.n];
      for (int a = 0; a < k.n; a++) for (int b = 0; b < k.n; b++) if (a != b) one[a][b] = costs(a, b);
      for (int round = 0; round < k.n; round++) for (int a = 0; a < k.n; a++) for (int b = 0; b < k.n; b++) far[b] = Math.min(far[b], far[a] + one[a][b]);
      return far;
    }

    List<Integer> givers, row, bestRow;
    int[] lack;
    int[][] far;
    int least;

    boolean feast(int day) {
      if (!d(day)) return false;
      givers = new ArrayList<>();
      lack = new int[k.n];
      int all = 0;
      for (int v = 0; v < k.n; v++) {
        if (when(v, day, 1) != 1) return false;
        all += when(v, day, 0);
      }
      if (all % k.n != 0) return false;
      for (int v = 0; v < k.n; v++) {
        int over = when(v, day, 0) - all / k.n;
        for (int i = 0; i < over; i++) givers.add(v);
        lack[v] = Math.max(0, -over);
      }
      if (givers.size() > 8) return false;
      far = new int[k.n][];
      for (int v = 0; v < k.n; v++) far[v] = costsFrom(v);
      row = new ArrayList<>();
      bestRow = null;
      least = 1 << 20;
      allRows(0);
      return true;
    }

    /** Rows come first as a row first, so only a lower cost is better. */
    void allRows(int cost) {
      if (row.size() == givers.size()) {
        if (cost < least) { least = cost; bestRow = new ArrayList<>(row); }
        return;
      }
      for (int t = 0; t < k.n; t++) {
        if (lack[t] == 0) continue;
        lack[t]--;
        int price = far[givers.get(row.size())][t];
        row.add(t);
        allRows(cost + price);
        row.remove(row.size() - 1);
        lack[t]++;
      }
    }

    int easter(int day, int what) {
      if (what < 0 || what > 2 || !feast(day)) return NONE;
      return what == 0 ? least : what == 2 ? givers.size() : day;
    }

    int trade(int day, int i, int what) {
      if (what < 0 || what > 1 || !feast(day) || i < 0 || i >= givers.size()) return NONE;
      return what == 0 ? givers.get(i) : bestRow.get(i);
    }

    int last(int o, int day, int what) {
      if (!v(o) || !d(day) || what < 0 || what > 1) return NONE;
      int[][] paper = k.copy().holder;
      List<Integer> way = new ArrayList<>(List.of(paper[o][day]));
      boolean going = true;
      while (going) {
        going = false;
        for (int to = 0; to < k.n && !going; to++) {
          if (way.contains(to) || barred(o, paper[o][day], to, day, held(paper, to))) continue;
          paper[o][day] = to;
          way.add(to);
          going = true;
        }
      }
      return what == 0 ? paper[o][day] : way.size() - 1;
    }

    int price(int weekday) {
      if (weekday < -1 || weekday > 6) return NONE;
      int[] p = new int[7];
      Arrays.fill(p, k.price);
      int rest = 51;
      for (int round = 1; round <= 50; round++) {
        int[] was = p.clone();
        for (int w = 0; w < 7; w++) {
          int want = 0, sell = 0;
          for (int v = 0; v < k.n; v++) {
            if (told("wants", new Asked(-1, -1, v, -1, w, -1, held(k.holder, v), was[w])) != null) want++;
            if (told("sells", new Asked(-1, v, -1, -1, w, -1, 0, was[w])) != null) sell++;
          }
          if (want > sell) p[w] = Math.min(99, p[w] + 1);
          if (sell > want) p[w] = Math.max(1, p[w] - 1);
        }
        if (Arrays.equals(was, p)) { rest = round; break; }
      }
      return weekday == -1 ? rest : p[weekday];
    }

    int deed(int v, int dawn, int day) {
      if (dawn < 0 || dawn > 223 || !d(day)) return no(-1);
      if (!v(v)) return no(-2);
      if (k.deeds.size() == 10) return no(-5);
      k.deeds.add(new int[] {v, dawn, day});
      return yes(k.deeds.size());
    }

    int burn(int deed) {
      if (deed < 0 || deed >= k.deeds.size()) return no(-2);
      k.deeds.remove(deed);
      return yes(k.deeds.size());
    }

    List<Integer> forgeries(int[][] holder) {
      List<Integer> all = new ArrayList<>();
      for (int i = 0; i < k.deeds.size(); i++) {
        int[] x = k.deeds.get(i);
        List<int[]> line = line(holder, x[0]);
        if (x[1] >= line.size() || line.get(x[1])[0] != x[2]) all.add(i);
      }
      return all;
    }

    int forged(int i) {
      List<Integer> all = forgeries(k.holder);
      if (i == NONE) return all.size();
      return i < 0 || i >= all.size() ? NONE : all.get(i);
    }

    int explains(int what) {
      if (what < 0 || what > 3) return NONE;
      int[] first = null;
      int found = 0;
      int[][] paper = k.copy().holder;
      for (int o = 0; o < k.n; o++) for (int d = 0; d < 28; d++) for (int to = 0; to < k.n; to++) {
        int was = paper[o][d];
        if (to == was) continue;
        paper[o][d] = to;
        if (forgeries(paper).isEmpty()) {
          found++;
          if (first == null) first = new int[] {0, o, d, to};
        }
        paper[o][d] = was;
      }
      return what == 0 ? found : first == null ? NONE : first[what];
    }

    int year(int seed, int n) {
      if (seed < 0 || seed > 1000000 || n < 1 || n > 60) return no(-1);
      year = k.copy().holder;
      yearN = k.n;
      long s = seed;
      int went = 0;
      for (int i = 0; i < n; i++) {
        s = (s * 1103 + 12345) % 1000003;
        int o = (int) (s % k.n);
        s = (s * 1103 + 12345) % 1000003;
        int d = (int) (s % 28);
        s = (s * 1103 + 12345) % 1000003;
        int to = (int) (s % k.n);
        if (year[o][d] == to || barred(o, year[o][d], to, d, held(year, to))) continue;
        year[o][d] = to;
        went++;
      }
      return yes(went);
    }

    int drawn(int v, int what) {
      if (year == null || v < 0 || v >= yearN || what < 0 || what > 1) return NONE;
      int c = 0;
      for (int o = 0; o < yearN; o++) for (int d = 0; d < 28; d++) if (what == 0 ? year[o][d] == v : o == v && year[o][d] != o) c++;
      return c;
    }

    int image(int i) {
      if (i < 0 || i > 1) return no(-1);
      images[i] = k.copy();
      return yes(0);
    }

    int back(int i) {
      if (i < 0 || i > 1) return no(-1);
      if (images[i] == null) return no(-2);
      k = images[i].copy();
      return yes(0);
    }

    int count(int what) {
      int rainy = 0;
      for (boolean r : k.rainy) if (r) rainy++;
      int[] all = {k.n, rainy, k.laws.size(), k.deeds.size(), k.loans.size(), tape.length(), refused[1], refused[2], refused[3], refused[5], refused[6], k.force, k.price};
      return what < 0 || what >= all.length ? NONE : all[what];
    }
  }

  // ---- drawn calls ----

  final Random random;
  final BorrowedDays real = new BorrowedDays();
  final Model model = new Model();
  final StringBuilder told = new StringBuilder();
  int wrong = 0;

  ModelRuns(long seed) { random = new Random(seed); }

  int upTo(int n) { return random.nextInt(n); }

  int wild() {
    int[] odd = {-2, -1, 8, 27, 28, 29, 1000, -1000, 1 << 24, 1 << 28, Integer.MAX_VALUE, Integer.MIN_VALUE, 223, 224, 225};
    return odd[upTo(odd.length)];
  }

  int village() { return upTo(25) == 0 ? wild() : upTo(30) == 0 ? upTo(9) : upTo(model.k.n); }
  int day() { return upTo(30) == 0 ? wild() : upTo(28); }
  int lowDay() { return upTo(30) == 0 ? wild() : upTo(9); }
  int what(int n) { return upTo(30) == 0 ? wild() : upTo(n); }
  int dawn() { return upTo(20) == 0 ? wild() : upTo(4) == 0 ? upTo(226) : upTo(40); }

  void due(String call, int got, int want) {
    told.append(call).append(" -> ").append(want).append('\n');
    if (got != want) {
      wrong++;
      if (wrong == 1) System.out.println(told + "the last one answered " + got);
    }
  }

  static final String[] WORDS = {"owner", "holder", "to", "day", "weekday", "rain", "held", "price"};

  String part(int deep) {
    int r = upTo(10);
    if (r == 0 && deep < 9) return "[" + gap() + sum(deep + 1) + gap() + "]";
    if (r < 5) return upTo(40) == 0 ? String.valueOf(990 + upTo(20)) : upTo(30) == 0 ? "000" + upTo(1001) : String.valueOf(upTo(upTo(3) == 0 ? 1001 : 12));
    return WORDS[upTo(WORDS.length)];
  }

  String gap() { return upTo(6) == 0 ? "  ".substring(upTo(2)) : ""; }

  String sum(int deep) {
    StringBuilder s = new StringBuilder(part(deep));
    for (int i = upTo(3); i > 0; i--) s.append(gap()).append("+-*/".charAt(upTo(4))).append(gap()).append(part(deep));
    return s.toString();
  }

  String plain(int deep) {
    int r = upTo(8);
    if (r == 0) return "not " + plain(deep);
    if (r == 1 && deep < 9) return "(" + gap() + test(deep + 1) + ")";
    return sum(deep) + gap() + "<>=".charAt(upTo(3)) + gap() + sum(deep);
  }

  String test(int deep) {
    StringBuilder s = new StringBuilder(plain(deep));
    for (int i = upTo(3); i > 0; i--) s.append(upTo(2) == 0 ? " or " : " and ").append(plain(deep));
    return s.toString();
  }

  String clause() {
    String[] heads = {"pays ", "costs ", "bars", "wants", "sells"};
    int h = upTo(5);
    String s = heads[h] + (h < 2 ? sum(0) : "");
    return h == 2 || upTo(3) > 0 ? s + " if " + test(0) : s;
  }

  String lawText() {
    StringBuilder s = new StringBuilder(clause());
    for (int i = upTo(8) == 0 ? upTo(13) : upTo(5); i > 0; i--) s.append(gap()).append(';').append(gap()).append(clause());
    if (upTo(5) == 0 && s.length() > 0) {
      int at = upTo(s.length());
      int how = upTo(4);
      String odd = "()[];<>=+-*/ 9aifzA{\u0000\u00ff";
      if (how == 0) s.deleteCharAt(at);
      if (how == 1) s.insert(at, odd.charAt(upTo(odd.length())));
      if (how == 2) s.setCharAt(at, odd.charAt(upTo(odd.length())));
      if (how == 3) s.setLength(at);
    }
    if (s.length() > 400) s.setLength(400);
    return s.toString();
  }

  void feedText(String text) {
    for (int at = 0; at < text.length(); at += 20) {
      int[] five = new int[5];
      for (int i = 0; i < 20; i++) five[i / 4] = five[i / 4] << 8 | (at + i < text.length() ? text.charAt(at + i) : 32);
      due("feed " + Arrays.toString(five), real.feed(five[0], five[1], five[2], five[3], five[4]), model.feed(five));
    }
    due("end " + text.length(), real.end(text.length()), model.end(text.length()));
  }

  void readLaw() {
    due("end 0", real.end(0), model.end(0));
    String text = lawText();
    told.append("the text is '").append(text).append("'\n");
    feedText(text);
    due("law", real.law(), model.law());
    due("fault", real.fault(), model.fault);
    if (upTo(2) == 0) {
      int l = model.k.laws.size() - 1;
      due("force " + l, real.force(l), model.force(l));
    }
  }

  void change() {
    int a, b, c;
    switch (upTo(26)) {
      case 0: if (upTo(2) == 0) break; a = what(2); b = a == 0 ? upTo(10) : upTo(102); due("terms " + a + " " + b, real.terms(a, b), model.terms(a, b)); break;
      case 1: a = day(); b = what(2); due("rain " + a + " " + b, real.rain(a, b), model.rain(a, b)); break;
      case 2: int[] f = new int[5]; for (int i = 0; i < 5; i++) f[i] = upTo(2) == 0 ? random.nextInt() : random.nextInt() & 0x1f1f1f1f; due("feed", real.feed(f[0], f[1], f[2], f[3], f[4]), model.feed(f)); break;
      case 3: a = upTo(3) == 0 ? wild() : upTo(25); due("end " + a, real.end(a), model.end(a)); break;
      case 4: due("row", real.row(), model.row()); due("fog", real.fog(), model.fog); break;
      case 5: case 6: readLaw(); break;
      case 7: a = upTo(10) == 0 ? wild() : upTo(7) - 1; due("force " + a, real.force(a), model.force(a)); break;
      case 8: due("undo", real.undo(), model.undo()); break;
      case 9: a = village(); b = day(); due("home " + a + " " + b, real.home(a, b), model.home(a, b)); break;
      case 10: case 11: case 12: a = village(); b = lowDay(); c = village(); due("lend " + a + " " + b + " " + c, real.lend(a, b, c), model.lend(a, b, c)); break;
      case 13: case 14: case 15: a = village(); b = day(); c = village(); due("lend " + a + " " + b + " " + c, real.lend(a, b, c), model.lend(a, b, c)); break;
      case 16: case 17: swap(); break;
      case 18: case 19: case 20: drawDeed(); break;
      case 21: a = upTo(11) - upTo(2); due("burn " + a, real.burn(a), model.burn(a)); break;
      case 22: a = upTo(20) == 0 ? wild() : upTo(1000001); b = upTo(20) == 0 ? wild() : upTo(62); due("year " + a + " " + b, real.year(a, b), model.year(a, b)); break;
      case 23: a = what(2); due("image " + a, real.image(a), model.image(a)); break;
      case 24: a = what(2); due("back " + a, real.back(a), model.back(a)); break;
      default: for (int i = upTo(12); i > 0; i--) due("undo", real.undo(), model.undo());
    }
    due("status", real.status(), model.status);
  }

  /** Copies of one day change hands, which keeps Easter on it possible. */
  void swap() {
    int a = upTo(model.k.n), b = upTo(model.k.n), d = upTo(28);
    due("lend " + a + " " + d + " " + b, real.lend(a, d, b), model.lend(a, d, b));
    due("lend " + b + " " + d + " " + a, real.lend(b, d, a), model.lend(b, d, a));
  }

  /** Mostly deeds that are so, or were if one copy were elsewhere: so that loans explain them. */
  void drawDeed() {
    int a = village(), b = dawn(), c = day();
    if (upTo(3) > 0 && model.live(a, b, 0) != NONE) c = Math.floorMod(model.live(a, b, 0) + (upTo(3) == 0 ? upTo(3) - 1 : 0), 28);
    due("deed " + a + " " + b + " " + c, real.deed(a, b, c), model.deed(a, b, c));
  }

  void ask() {
    int a = village(), b = day(), c = village(), e;
    switch (upTo(21)) {
      case 0: e = what(3); due("of " + a + " " + b + " " + c + " " + e, real.of(a, b, c, e), model.of(a, b, c, e)); break;
      case 1: b = upTo(5) == 0 ? NONE : dawn(); e = what(2); due("live " + a + " " + b + " " + e, real.live(a, b, e), model.live(a, b, e)); break;
      case 2: e = what(2); due("when " + a + " " + b + " " + e, real.when(a, b, e), model.when(a, b, e)); break;
      case 3: e = dawn(); due("age " + a + " " + b + " " + e, real.age(a, b, e), model.age(a, b, e)); break;
      case 4: b = dawn(); due("wages " + a + " " + b, real.wages(a, b), model.wages(a, b)); break;
      case 5: due("gap " + a, real.gap(a), model.gap(a)); break;
      case 6: due("owes " + a + " " + c, real.owes(a, c), model.owes(a, c)); break;
      case 7: due("away", real.away(), model.away()); break;
      case 8: case 9: e = upTo(10) == 0 ? wild() : upTo(9) - 1; due("ring " + e, real.ring(e), model.ring(e)); break;
      case 10: case 11: e = what(3); due("easter " + b + " " + e, real.easter(b, e), model.easter(b, e)); break;
      case 12: case 13: c = upTo(9) - upTo(2); e = what(2); due("trade " + b + " " + c + " " + e, real.trade(b, c, e), model.trade(b, c, e)); break;
      case 14: due("chain " + a + " " + c, real.chain(a, c), model.chain(a, c)); break;
      case 15: e = what(2); due("last " + a + " " + b + " " + e, real.last(a, b, e), model.last(a, b, e)); break;
      case 16: e = upTo(10) == 0 ? wild() : upTo(8) - 1; due("price " + e, real.price(e), model.price(e)); break;
      case 17: e = upTo(11) - 1; due("forged " + e, real.forged(e), model.forged(e)); break;
      case 18: e = what(4); due("explains " + e, real.explains(e), model.explains(e)); break;
      case 19: e = what(2); a = upTo(9); due("drawn " + a + " " + e, real.drawn(a, e), model.drawn(a, e)); break;
      default: e = upTo(15) - 1; due("count " + e, real.count(e), model.count(e));
    }
    due("status", real.status(), model.status);
  }

  // ---- scenes: what drawn calls alone come to too seldom ----

  void settlers(int least) {
    int n = least + upTo(9 - least);
    due("terms 0 " + n, real.terms(0, n), model.terms(0, n));
  }

  void law(String text) {
    if (model.k.laws.size() == 6) due("back", real.back(0), model.back(0));
    due("end 0", real.end(0), model.end(0));
    told.append("the text is '").append(text).append("'\n");
    feedText(text);
    due("law", real.law(), model.law());
    int l = model.k.laws.size() - 1;
    due("force " + l, real.force(l), model.force(l));
  }

  void lendDrawn(int times, int days) {
    for (int i = 0; i < times; i++) {
      int a = upTo(model.k.n), b = upTo(days), c = upTo(model.k.n);
      due("lend " + a + " " + b + " " + c, real.lend(a, b, c), model.lend(a, b, c));
    }
  }

  void feastScene() {
    String[] costs = {
      "costs [holder+1]*[to+2]-3", "costs 9 - holder + to*to", "costs [holder*5+to*3]-[holder*5+to*3]/7*7",
      "costs 30; costs 2 if to = holder+1 or holder = to+1", "costs held/3; costs 0 if to=1", "costs 0-5 if holder>to; costs 500 if holder<to",
      "costs 10/[holder-to-1]; costs 3 if holder-to=1", "costs [holder*to+holder+to]-[holder*to+holder+to]/4*4"};
    settlers(2);
    law(costs[upTo(costs.length)]);
    lendDrawn(upTo(12), 20);
    int day = 18 + upTo(10);
    for (int w = 0; w < 3; w++) due("easter " + day + " " + w, real.easter(day, w), model.easter(day, w));
    for (int i = 0; i < 9; i++) for (int w = 0; w < 2; w++) due("trade " + day + " " + i + " " + w, real.trade(day, i, w), model.trade(day, i, w));
    for (int a = 0; a < model.k.n; a++) for (int b = 0; b < model.k.n; b++) due("chain " + a + " " + b, real.chain(a, b), model.chain(a, b));
  }

  void ringScene() {
    settlers(3);
    due("force -1", real.force(NONE), model.force(NONE));
    List<Integer> order = new ArrayList<>();
    for (int v = 0; v < model.k.n; v++) order.add(v);
    java.util.Collections.shuffle(order, random);
    int size = 2 + upTo(model.k.n - 1);
    for (int i = 0; i < size; i++) {
      int a = order.get(i), b = order.get((i + 1) % size), d = upTo(28);
      due("lend " + a + " " + d + " " + b, real.lend(a, d, b), model.lend(a, d, b));
    }
    lendDrawn(upTo(4), 28);
    for (int i = -2; i < 9; i++) due("ring " + i, real.ring(i), model.ring(i));
  }

  void explainScene() {
    settlers(2);
    due("force -1", real.force(NONE), model.force(NONE));
    lendDrawn(upTo(8), 28);
    int most = model.k.loans.size();
    lendDrawn(1, 28);
    for (int i = 1 + upTo(9); i > 0; i--) {
      int a = upTo(model.k.n), b = upTo(Math.max(1, model.live(a, NONE, 0)));
      int c = Math.max(0, model.live(a, b, 0));
      due("deed " + a + " " + b + " " + c, real.deed(a, b, c), model.deed(a, b, c));
    }
    if (model.k.loans.size() > most) due("undo", real.undo(), model.undo());
    for (int i = -1; i < 10; i++) due("forged " + i, real.forged(i), model.forged(i));
    for (int w = 0; w < 4; w++) due("explains " + w, real.explains(w), model.explains(w));
  }

  void priceScene() {
    settlers(1);
    lendDrawn(upTo(20), 28);
    String wants = "wants if " + sum(0) + (upTo(2) == 0 ? ">" : "<") + "price*" + (1 + upTo(2)) + " and weekday<" + upTo(8);
    String sells = "sells if price>" + upTo(99) + (upTo(2) == 0 ? " and holder<" + upTo(8) : " or weekday=" + upTo(7));
    law(wants + ";" + sells + (upTo(3) == 0 ? ";wants if held<" + (20 + upTo(20)) : ""));
    int p = 1 + upTo(99);
    due("terms 1 " + p, real.terms(1, p), model.terms(1, p));
    for (int w = -1; w < 8; w++) due("price " + w, real.price(w), model.price(w));
  }

  void badDayScene() {
    settlers(3);
    due("force -1", real.force(NONE), model.force(NONE));
    lendDrawn(upTo(12), 28);
    String[] bars = {"bars if " + test(0), "bars if to>holder+" + upTo(3), "bars if held>" + (24 + upTo(6)), "bars if [to+holder+day]/2*2=to+holder+day", "bars if owner=to or rain=1 and weekday>2", "bars if price<0 and not to=" + upTo(8)};
    law(bars[upTo(bars.length)]);
    for (int i = 0; i < 6; i++) {
      int a = upTo(model.k.n), b = upTo(28);
      for (int w = 0; w < 2; w++) due("last " + a + " " + b + " " + w, real.last(a, b, w), model.last(a, b, w));
    }
    int seed = upTo(1000001);
    due("year " + seed + " 60", real.year(seed, 60), model.year(seed, 60));
    for (int v = 0; v < 8; v++) for (int w = 0; w < 2; w++) due("drawn " + v + " " + w, real.drawn(v, w), model.drawn(v, w));
  }

  void scene() {
    switch (upTo(5)) {
      case 0: feastScene(); break;
      case 1: ringScene(); break;
      case 2: explainScene(); break;
      case 3: priceScene(); break;
      default: badDayScene();
    }
  }

  public static void main(String[] args) {
    int runs = args.length > 0 ? Integer.parseInt(args[0]) : RUNS;
    int from = args.length > 1 ? Integer.parseInt(args[1]) : 0;
    for (int run = from; run < from + runs; run++) {
      ModelRuns r = new ModelRuns(run);
      int calls = 40 + r.upTo(160);
      for (int i = 0; i < calls && r.wrong == 0; i++) {
        if (r.upTo(40) == 0) r.scene(); else if (r.upTo(5) < 3) r.change(); else r.ask();
      }
      if (r.wrong > 0) {
        System.out.println("run " + run + " went wrong");
        System.exit(1);
      }
    }
    System.out.println(runs + " runs are as the model has them");
  }
}
