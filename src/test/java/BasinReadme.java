import java.io.IOException;
import java.nio.file.Files;
import java.nio.file.Path;
import java.util.ArrayList;
import java.util.List;

/** The examples that README.md tells, with the answers that it tells; run in the project's root. */
public final class BasinReadme {
  private static int wrong = 0;

  private static void due(String told, Object answer) {
    if (!told.equals(String.valueOf(answer))) {
      wrong++;
      System.out.println("the README says " + told + ", the answer is " + answer);
    }
  }

  private static void example() {
    BargeBasin x = new BargeBasin();
    due("true", x.basin(4, 4));
    due("0", x.barge(5, 0, 1, 2, false));
    due("true", x.gate(0, 2, 1));
    due("1", x.barge(1, 2, 1, 2, true));
    due("true", x.line(3, 0, 4));
    due("true", x.set(3, 3, 1));
    due("4", x.show(3));
    due("35", x.out(3));
    due("1", x.room(1, 0));
    due("false", x.slide(0, 1, 1));
    due("9", x.status());
    due("4", x.why(1));
    due("1", x.why(2));
    due("2", x.fewest());
    due("1", x.planned(0, 0));
    due("2", x.planned(0, 1));
    due("1", x.planned(0, 2));
    due("1", x.all());
    due("1", x.must(1));
    due("3", x.fewestSteps());
    due("2", x.low());
    due("5", x.reach());
    due("2", x.far());
    due("true", x.keep(0));
    due("3", x.follow(0, 3));
    due("1", x.count(5));
    due("true", x.undo());
    due("0", x.same(0));
    due("true", x.redo());
    due("true", x.go());
    due("true", x.turn(false));
    due("1", x.trim());
    due("3", x.make(7, 3));
    due("0", x.fewest());
  }

  /** The calls of a text, in their row, with what is told behind each: "x.basin(4, 4) true". */
  private static List<String> calls(List<String> lines, boolean ofReadme) {
    List<String> calls = new ArrayList<>();
    for (String line : lines) {
      String text = line.trim();
      if (ofReadme && text.startsWith("x.")) {
        String[] parts = text.split("; *// ");
        calls.add(parts[0] + " " + parts[parts.length - 1].split("[ :,]")[0]);
      } else if (!ofReadme && text.startsWith("due(\"")) {
        int end = text.indexOf("\", ");
        calls.add(text.substring(end + 3, text.length() - 2) + " " + text.substring(5, end));
      }
    }
    return calls;
  }

  public static void main(String[] args) throws IOException {
    example();
    List<String> told = calls(Files.readAllLines(Path.of("README.md")), true);
    List<String> held =
        calls(Files.readAllLines(Path.of("src/test/java/BasinReadme.java")), false);
    if (!told.equals(held)) {
      wrong++;
      System.out.println("the README tells " + told + "\nthis test has " + held);
    }
    System.out.println(held.size() + " answers");
    System.out.println(wrong == 0 ? "the README is as due" : wrong + " faults");
    if (wrong != 0) {
      System.exit(1);
    }
  }
}
