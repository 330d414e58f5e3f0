import java.io.IOException;
import java.lang.reflect.Constructor;
import java.lang.reflect.Executable;
import java.lang.reflect.Field;
import java.lang.reflect.Method;
import java.lang.reflect.Modifier;
import java.nio.file.Files;
import java.nio.file.Path;
import java.util.ArrayList;
import java.util.Arrays;
import java.util.HashSet;
import java.util.List;
import java.util.Set;
import java.util.TreeSet;
import java.util.regex.Matcher;
import java.util.regex.Pattern;

/** What of LANGUAGE.md can be seen in the class itself and in its text. */
public final class LanguageRules {
  private static int wrong = 0;

  private static void no(int rule, String what) {
    wrong++;
    System.out.println("rule " + rule + ": " + what);
  }

  private static final String FACE =
      "BorrowedDays() terms(int,int) rain(int,int) feed(int,int,int,int,int) end(int) row() fog() law() fault() "
      + "force(int) of(int,int,int,int) lend(int,int,int) home(int,int) undo() live(int,int,int) when(int,int,int) "
      + "age(int,int,int) wages(int,int) gap(int) owes(int,int) away() ring(int) easter(int,int) trade(int,int,int) "
      + "chain(int,int) last(int,int,int) price(int) deed(int,int,int) burn(int) forged(int) explains(int) year(int,int) "
      + "drawn(int,int) image(int) back(int) count(int) status()";

  private static String signature(String name, Executable e) {
    StringBuilder s = new StringBuilder(name).append('(');
    for (Class<?> c : e.getParameterTypes()) s.append(s.charAt(s.length() - 1) == '(' ? "" : ",").append(c.getName());
    return s.append(')').toString();
  }

  private static void face() {
    Class<?> c = BorrowedDays.class;
    Set<String> got = new TreeSet<>();
    Set<String> open = new HashSet<>();
    for (Constructor<?> k : c.getDeclaredConstructors()) got.add(signature("BorrowedDays", k));
    for (Method m : c.getDeclaredMethods()) {
      if (!Modifier.isPrivate(m.getModifiers())) {
        got.add(signature(m.getName(), m));
        open.add(m.getName());
        if (m.getReturnType() != int.class || !Modifier.isPublic(m.getModifiers())) no(1, "face of " + m);
      }
    }
    if (!got.equals(new TreeSet<>(Arrays.asList(FACE.split(" "))))) no(1, "the face is " + got);
    if (!Modifier.isFinal(c.getModifiers()) || !Modifier.isPublic(c.getModifiers())) no(1, "the class is not public and final");
    for (Field f : c.getDeclaredFields()) {
      boolean constant = f.getName().equals("NONE") || f.getName().equals("NOTHING");
      if (constant != Modifier.isPublic(f.getModifiers()) || !constant && !Modifier.isPrivate(f.getModifiers())) no(1, "field " + f);
    }
    for (Class<?> k : all()) for (Method m : k.getDeclaredMethods()) {
      if ((k != c || Modifier.isPrivate(m.getModifiers())) && open.contains(m.getName())) no(1, "a method bears a public one's name: " + m);
    }
  }

  private static List<Class<?>> all() {
    List<Class<?>> all = new ArrayList<>(Arrays.asList(BorrowedDays.class.getDeclaredClasses()));
    all.add(BorrowedDays.class);
    return all;
  }

  private static void shapes() {
    if (all().size() > 12) no(11, "more than twelve classes");
    for (Class<?> c : all()) {
      int fields = 0;
      for (Field f : c.getDeclaredFields()) {
        if (!Modifier.isStatic(f.getModifiers())) fields++;
        else if (!Modifier.isFinal(f.getModifiers())) no(5, "static field that is not final: " + f);
      }
      if (fields > 20) no(11, "more than twenty fields: " + c);
      if (c != BorrowedDays.class && !Modifier.isStatic(c.getModifiers())) no(2, "not static: " + c);
      for (Method m : c.getDeclaredMethods()) if (m.getParameterCount() > 7) no(11, "more than seven parameters: " + m);
    }
  }

  private static void text(String source) {
    String bare = source.replaceAll("(?s)/\\*.*?\\*/", "").replaceAll("//[^\n]*", "").replaceAll("\"[^\"\n]*\"", "\"\"");
    String[] banned = {"\\bthrow\\b", "\\btry\\b", "\\bcatch\\b", "\\bsynchronized\\b", "\\bassert\\b", "->", "::", "static \\{", "Exact\\b",
      "\\bvar\\b", "\\bhashCode\\b", "\\btoString\\b", "\\bString\\[\\]", "\\bpackage\\b", "Random", "currentTime", "nanoTime", "\\bprotected\\b"};
    for (String b : banned) {
      Matcher m = Pattern.compile(b).matcher(bare);
      if (m.find()) no(6, "the text has " + m.group());
    }
    Matcher m = Pattern.compile("import ([^;]+);").matcher(bare);
    while (m.find()) if (!m.group(1).equals("java.util.Arrays")) no(4, "the text imports " + m.group(1));
    m = Pattern.compile("\\b(Math|Integer|Long|Arrays|System)\\.(\\w+)").matcher(bare);
    while (m.find()) if (!List.of("max", "min", "bitCount", "copyOf", "fill", "arraycopy").contains(m.group(2))) no(4, "the text calls " + m.group());
    for (char c : source.toCharArray()) if (c > 126) no(4, "the text has the sign " + (int) c);
  }

  private static void lengths(String source) {
    int from = 0;
    String[] lines = source.split("\n");
    for (int i = 0; i < lines.length; i++) {
      if (lines[i].matches(" +.*\\) \\{") && lines[i].matches(" {4}( {4})?[a-zA-Z].*")) from = i;
      if (lines[i].matches(" {4}( {4})?\\}") && i - from > 60) no(11, "a method ends " + (i - from) + " lines behind line " + (from + 1));
    }
  }

  public static void main(String[] args) throws IOException {
    String source = Files.readString(Path.of("src/main/java/BorrowedDays.java"));
    face();
    shapes();
    text(source);
    lengths(source);
    System.out.println(wrong == 0 ? "no rule is broken that is looked at" : wrong + " faults");
    if (wrong != 0) System.exit(1);
  }
}
