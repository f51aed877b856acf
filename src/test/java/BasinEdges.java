import java.io.IOException;
import java.lang.reflect.InvocationTargetException;
import java.lang.reflect.Method;
import java.nio.file.Files;
import java.nio.file.Path;
import java.util.ArrayList;
import java.util.HashMap;
import java.util.List;
import java.util.Map;
import java.util.NoSuchElementException;
import java.util.stream.Collectors;
import java.util.stream.Stream;

/**
 * The document's edges, sentence by sentence: the files in src/test/edges hold, for each sentence, a
 * run of calls on a new object with the answers that are due. How they are written is told in
 * README.md. Besides, every call that is due to be refused is held to change nothing but STATUS.
 */
public final class BasinEdges {
  private static final String WITHOUT_STATUS = " status why planned out ";
  private static final int PROMISES = 36;
  private static final int TERMS = 4;
  private static final Map<String, Method> CALLS = new HashMap<>();
  private static final Map<String, Integer> CASES = new HashMap<>();
  private static int wrong = 0;
  private static int asked = 0;

  /** One call with what is due: a number or "yes" (STATUS 0), "no" with a STATUS, or "throws". */
  private record Step(String text, Method call, Object[] args, String due) {
    boolean isRefusal() {
      return due.startsWith("no ");
    }

    int refusal() {
      return Integer.parseInt(due.substring(3).trim());
    }

    boolean hasStatus() {
      return !WITHOUT_STATUS.contains(" " + call.getName() + " ");
    }

    Object on(BargeBasin x) throws ReflectiveOperationException {
      try {
        return call.invoke(x, args);
      } catch (InvocationTargetException e) {
        if (e.getCause() instanceof NoSuchElementException) {
          return "throws";
        }
        throw new IllegalStateException(text, e.getCause());
      }
    }
  }

  // ---- one case

  private final String title;
  private final BargeBasin x = new BargeBasin();
  private final List<Step> done = new ArrayList<>();

  private BasinEdges(String title) {
    this.title = title;
  }

  private void due(String what, Object got, Object want) {
    asked++;
    if (!String.valueOf(got).equals(String.valueOf(want))) {
      wrong++;
      System.out.println(title + "\n  " + what + " answered " + got + ", due is " + want);
    }
  }

  private void line(String text) throws ReflectiveOperationException {
    int times = 1;
    String rest = text;
    if (text.startsWith("times ")) {
      String[] parts = text.split(" ", 3);
      times = Integer.parseInt(parts[1]);
      rest = parts[2];
    }
    for (int i = 0; i < times; i++) {
      for (String part : rest.split(";")) {
        say(part.trim());
      }
    }
  }

  private void say(String text) throws ReflectiveOperationException {
    int blank = text.indexOf(' ');
    String word = blank < 0 ? text : text.substring(0, blank);
    String rest = text.substring(blank + 1).trim();
    switch (word) {
      case "looks": due(text, picture(x), rest); break;
      case "walls": walls(rest.split(" ")); break;
      case "plan": due(text, plan(x), rest); break;
      case "whys": due(text, x.why(0) + " " + x.why(1) + " " + x.why(2), rest); break;
      case "outs": due(text, outs(x), rest); break;
      default: call(step(text));
    }
  }

  /** A line of its own for each row of signs that has a wall; the others stay missing. */
  private void walls(String[] rows) throws ReflectiveOperationException {
    for (int y = 0; y < rows.length; y++) {
      if (rows[y].indexOf('#') < 0) {
        continue;
      }
      call(step("line " + y + " 0 " + rows[y].length() + " = yes"));
      for (int i = 0; i < rows[y].length(); i++) {
        if (rows[y].charAt(i) == '#') {
          call(step("set " + y + " " + i + " 1 = yes"));
        }
      }
    }
  }

  private void call(Step step) throws ReflectiveOperationException {
    List<String> before = step.isRefusal() ? viewAfterAll() : null;
    if (step.hasStatus()) {
      makeStatusOtherThan(step);
    }
    int status = x.status();
    Object got = step.on(x);
    if (!step.hasStatus()) {
      due(step.text, got, step.due);
      due("status() behind " + step.text, x.status(), status);
    } else if (step.isRefusal()) {
      boolean truth = step.call.getReturnType() == boolean.class;
      int want = step.refusal();
      due(step.text, got, truth ? "false" : "-1");
      due("status() behind " + step.text, x.status(), want);
      due("once more " + step.text, step.on(x), truth ? "false" : "-1");
      due("status() once more behind " + step.text, x.status(), want);
    } else {
      due(step.text, got, step.due.equals("yes") ? "true" : step.due);
      due("status() behind " + step.text, x.status(), 0);
    }
    done.add(step);
    if (step.isRefusal()) {
      // slide() with 9 is what why() tells of
      boolean tellsWhy = step.due.equals("no 9");
      List<String> after = viewAfterAll();
      for (int i = 0; i < before.size() || i < after.size(); i++) {
        String was = i < before.size() ? before.get(i) : "";
        String is = i < after.size() ? after.get(i) : "";
        if (!(tellsWhy && was.startsWith("why"))) {
          due("what can be seen behind " + step.text, is, was);
        }
      }
    }
  }

  /** So that a call that leaves STATUS as it was is found out. */
  private void makeStatusOtherThan(Step step) {
    if (step.due.equals("no 2")) {
      x.low();
    } else {
      x.basin(2, 2);
    }
    if (x.status() == (step.isRefusal() ? step.refusal() : 0)) {
      throw new IllegalStateException("STATUS is no other ahead of " + step.text);
    }
  }

  // ---- what can be seen of an object

  /** Of an object of its own, because looking changes STATUS and, at last, more. */
  private List<String> viewAfterAll() throws ReflectiveOperationException {
    BargeBasin y = new BargeBasin();
    for (Step step : done) {
      step.on(y);
    }
    List<String> view = new ArrayList<>();
    view.add("out " + outs(y));
    view.add("why " + y.why(0) + " " + y.why(1) + " " + y.why(2));
    view.add("plan " + plan(y) + " " + y.follow(999, 0) + " " + y.status());
    StringBuilder counts = new StringBuilder("counts");
    for (int what = 0; what < 8; what++) {
      counts.append(' ').append(y.count(what));
    }
    view.add(counts.toString());
    view.add("barges " + barges(y));
    view.add("lines " + lines(y));
    StringBuilder shelves = new StringBuilder("shelves");
    for (int shelf = 0; shelf < 4; shelf++) {
      shelves.append(' ').append(y.same(shelf)).append('/').append(y.status());
    }
    view.add(shelves.toString());
    view.add("looks " + picture(y));
    for (int i = 0; i < 99 && y.undo(); i++) {
      view.add("undone " + picture(y));
    }
    for (int i = 0; i < 999 && y.redo(); i++) {
      view.add("again " + picture(y));
    }
    view.add("sorts " + sorts(y));
    return view;
  }

  private static String barges(BargeBasin y) {
    StringBuilder text = new StringBuilder();
    for (int b = 0; b < 13; b++) {
      for (int what = 0; what < 7; what++) {
        text.append(y.lies(b, what)).append('/').append(y.status()).append(' ');
      }
    }
    return text.toString();
  }

  private static String lines(BargeBasin y) {
    StringBuilder text = new StringBuilder();
    for (int at = 0; at < 8; at++) {
      for (int i = 0; i < 9; i++) {
        text.append(y.get(at, i)).append('/').append(y.status()).append(' ');
      }
    }
    return text.toString();
  }

  /** What becomes of a number that each sort cuts otherwise. */
  private static String sorts(BargeBasin y) {
    StringBuilder text = new StringBuilder();
    for (int at = 0; at < 8; at++) {
      for (int i = 0; i < 9; i++) {
        text.append(y.set(at, i, 40000)).append(y.get(at, i)).append(' ');
      }
    }
    return text.toString();
  }

  private static String picture(BargeBasin y) {
    int width = Math.max(0, y.count(0));
    int height = Math.max(0, y.count(1));
    StringBuilder text = new StringBuilder();
    for (int at = 0; at < height; at++) {
      text.append(at > 0 ? " " : "");
      for (int i = 0; i < width; i++) {
        int sign = y.field(i, at);
        text.append(sign == -2 ? '#' : sign == -3 ? '.'
            : (char) ((y.lies(sign, 0) == 5 ? 'A' : 'a') + sign));
      }
    }
    return text.toString();
  }

  private static String plan(BargeBasin y) {
    StringBuilder text = new StringBuilder();
    for (int k = 0; k < 6000 && y.planned(k, 0) != -1; k++) {
      text.append(k > 0 ? ", " : "").append(y.planned(k, 0)).append(' ')
          .append(y.planned(k, 1)).append(' ').append(y.planned(k, 2));
    }
    return text.length() == 0 ? "none" : text.toString();
  }

  private static String outs(BargeBasin y) {
    StringBuilder text = new StringBuilder();
    try {
      for (int k = 0; k < 99; k++) {
        text.append((char) y.out(k));
      }
    } catch (NoSuchElementException e) {
      return text.length() == 0 ? "none" : text.toString();
    }
    return "without an end";
  }

  // ---- reading

  private static Step step(String text) {
    int sign = text.indexOf('=');
    if (sign < 0) {
      throw new IllegalStateException("nothing due: " + text);
    }
    String[] words = text.substring(0, sign).trim().split(" +");
    Method call = CALLS.get(words[0]);
    if (call == null || call.getParameterCount() != words.length - 1) {
      throw new IllegalStateException("no such call: " + text);
    }
    Object[] args = new Object[words.length - 1];
    for (int i = 0; i < args.length; i++) {
      args[i] = argument(words[i + 1]);
    }
    return new Step(text, call, args, text.substring(sign + 1).trim());
  }

  private static Object argument(String word) {
    switch (word) {
      case "MIN": return Integer.MIN_VALUE;
      case "MAX": return Integer.MAX_VALUE;
      case "across":
      case "over": return true;
      case "along":
      case "right": return false;
      default: return Integer.parseInt(word);
    }
  }

  private static void read(Path file) throws IOException, ReflectiveOperationException {
    BasinEdges edge = null;
    for (String raw : Files.readAllLines(file)) {
      String text = raw.trim();
      if (text.startsWith("== ")) {
        edge = new BasinEdges(text);
        CASES.merge(text.substring(3, text.indexOf(':')), 1, Integer::sum);
      } else if (!text.isEmpty() && !text.startsWith("#")) {
        if (edge == null) {
          throw new IllegalStateException(file + " begins without a sentence");
        }
        edge.line(text);
      }
    }
  }

  private static void mustHave(String name) {
    if (!CASES.containsKey(name)) {
      wrong++;
      System.out.println("no edge of " + name);
    }
  }

  public static void main(String[] args) throws IOException, ReflectiveOperationException {
    for (Method call : BargeBasin.class.getMethods()) {
      if (call.getDeclaringClass() == BargeBasin.class) {
        CALLS.put(call.getName(), call);
      }
    }
    List<Path> files;
    try (Stream<Path> all = Files.list(Path.of("src/test/edges"))) {
      files = all.filter(f -> f.toString().endsWith(".txt")).sorted().collect(Collectors.toList());
    }
    for (Path file : files) {
      read(file);
    }
    for (int k = 1; k <= TERMS; k++) {
      mustHave("T" + k);
    }
    for (int k = 1; k <= PROMISES; k++) {
      mustHave(String.valueOf(k));
    }
    int cases = 0;
    for (int many : CASES.values()) {
      cases += many;
    }
    System.out.println(cases + " edges, " + asked + " answers");
    System.out.println(wrong == 0 ? "all answers are as due" : wrong + " answers are not as due");
    if (wrong != 0) {
      System.exit(1);
    }
  }
}
