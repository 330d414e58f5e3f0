import java.io.IOException;
import java.lang.reflect.InvocationTargetException;
import java.lang.reflect.Method;
import java.lang.reflect.Modifier;
import java.nio.file.Files;
import java.nio.file.Path;
import java.util.ArrayList;
import java.util.List;
import java.util.Set;
import java.util.TreeSet;
import java.util.regex.Matcher;
import java.util.regex.Pattern;

/** README.md tells how to use the class: each call on it answers what it says there. */
public final class ReadmeRuns {
  private static final Pattern CALL = Pattern.compile(" {4}x\\.(\\w+)\\(([^)]*)\\); +// (-?\\d+)(:.*)?");
  private static final Pattern TAPE = Pattern.compile(" {4}tape\\(x, \"([^\"]*)\"\\);");
  private static final String NEW = "    BorrowedDays x = new BorrowedDays();";
  private static final String HELPER = "    static void tape(";
  private static int wrong = 0;

  private static void no(String what) {
    wrong++;
    System.out.println(what);
  }

  private static int answer(BorrowedDays x, String name, String numbers) throws IllegalAccessException, InvocationTargetException {
    List<Object> args = new ArrayList<>();
    for (String number : numbers.isEmpty() ? new String[0] : numbers.split(", ")) args.add(Integer.valueOf(number));
    for (Method m : BorrowedDays.class.getMethods()) {
      if (m.getName().equals(name) && m.getParameterCount() == args.size()) return (int) m.invoke(x, args.toArray());
    }
    throw new IllegalArgumentException("no call " + name + " with " + args.size() + " numbers");
  }

  /** The page's way of feeding a text is the one that the tests feed texts by. */
  private static void helperIsTested(List<String> page, String checks) {
    int from = 0;
    while (from < page.size() && !page.get(from).startsWith(HELPER)) from++;
    StringBuilder helper = new StringBuilder();
    for (int i = from; i < page.size() && !page.get(i).isEmpty(); i++) helper.append(page.get(i).substring(2)).append('\n');
    if (helper.length() == 0 || !checks.contains(helper)) no("the page's tape(..) is not the one of Checks.java");
  }

  private static Set<String> calls(List<String> page) throws IllegalAccessException, InvocationTargetException {
    Set<String> asked = new TreeSet<>();
    BorrowedDays x = null;
    for (String line : page) {
      Matcher call = CALL.matcher(line);
      Matcher tape = TAPE.matcher(line);
      if (line.equals(NEW)) {
        x = new BorrowedDays();
      } else if (tape.matches()) {
        Checks.tape(x, tape.group(1));
      } else if (call.matches()) {
        int got = answer(x, call.group(1), call.group(2));
        if (got != Integer.parseInt(call.group(3))) no("the page says '" + line.trim() + "', the answer is " + got);
        asked.add(call.group(1));
      } else if (line.startsWith("    x.")) {
        no("the page does not say what is answered: " + line);
      }
    }
    return asked;
  }

  public static void main(String[] args) throws IOException, IllegalAccessException, InvocationTargetException {
    List<String> page = Files.readAllLines(Path.of("README.md"));
    helperIsTested(page, Files.readString(Path.of("src/test/support/Checks.java")));
    Set<String> asked = calls(page);
    for (Method m : BorrowedDays.class.getDeclaredMethods()) {
      if (Modifier.isPublic(m.getModifiers()) && !asked.contains(m.getName())) no("the page never calls " + m.getName());
    }
    System.out.println(wrong == 0 ? "the page's calls answer what it says" : wrong + " faults");
    if (wrong != 0) System.exit(1);
  }
}
