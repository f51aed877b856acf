import java.io.IOException;
import java.nio.file.Files;
import java.nio.file.Path;
import java.util.List;
import java.util.regex.Matcher;
import java.util.regex.Pattern;

/** The rules of LANGUAGE.md that can be seen in the text of the class; run in the project's root. */
public final class BasinLanguage {
  private static final String[] FORBIDDEN = {
    "\\bcatch\\b", "\\bfinally\\b", "\\btry\\b", "\\bassert\\b", "\\bsynchronized\\b", "->", "::",
    "\\bvar\\b", "\\bdouble\\b", "\\bfloat\\b", "\\bString\\b", "\\bObject\\b", "\\bSystem\\b",
    "Exact\\(", "\\bprotected\\b", "\\binstanceof\\b", "static \\{", "\\brecord\\b",
    "\\bhashCode\\b", "\\btoString\\b",
  };
  private static final int MOST_LINES = 60;
  private static final int MOST_PARAMETERS = 7;
  private static final int MOST_CLASSES = 12;
  private static int wrong = 0;

  private static void fault(int line, String what) {
    wrong++;
    System.out.println("line " + line + ": " + what);
  }

  private static String code(String line) {
    String trimmed = line.trim();
    if (trimmed.startsWith("*") || trimmed.startsWith("/*") || trimmed.startsWith("//")) {
      return "";
    }
    return line.replaceAll("//.*", "");
  }

  public static void main(String[] args) throws IOException {
    List<String> lines = Files.readAllLines(Path.of("src/main/java/BargeBasin.java"));
    Pattern method = Pattern.compile("^ {2,4}(?:(?:public|private|static|final) )*"
        + "(?:[A-Za-z]+(?:\\[\\])? )?[A-Za-z]+\\((.*)\\)(?: throws .*)? \\{$");
    int begun = -1;
    int classes = 0;
    for (int i = 0; i < lines.size(); i++) {
      String line = code(lines.get(i));
      for (String sign : FORBIDDEN) {
        if (Pattern.compile(sign).matcher(line).find()) {
          fault(i + 1, "has " + sign);
        }
      }
      if (line.startsWith("import") && !line.equals("import java.util.NoSuchElementException;")) {
        fault(i + 1, "another import");
      }
      if (line.startsWith("package")) {
        fault(i + 1, "a package");
      }
      classes += line.matches(".*\\bclass [A-Z].*") ? 1 : 0;
      Matcher head = method.matcher(line);
      if (head.matches()) {
        begun = i;
        if (head.group(1).split(",").length > MOST_PARAMETERS) {
          fault(i + 1, "too many parameters");
        }
      }
      if (line.matches(" {2,4}\\}") && begun >= 0) {
        if (i - begun > MOST_LINES) {
          fault(begun + 1, "too long");
        }
        begun = -1;
      }
    }
    if (classes > MOST_CLASSES) {
      fault(1, "too many classes");
    }
    System.out.println(wrong == 0 ? "the text is as due" : wrong + " places are not as due");
    if (wrong != 0) {
      System.exit(1);
    }
  }
}
