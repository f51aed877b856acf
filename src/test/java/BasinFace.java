import java.lang.reflect.Constructor;
import java.lang.reflect.Field;
import java.lang.reflect.Method;
import java.lang.reflect.Modifier;
import java.util.ArrayList;
import java.util.Arrays;
import java.util.Collections;
import java.util.List;
import java.util.NoSuchElementException;

/** The class has the document's face, and nothing else of it can be seen from outside. */
public final class BasinFace {
  private static final String[] FACE = {
    "int status()", "boolean basin(int, int)", "boolean line(int, int, int)",
    "boolean set(int, int, int)", "int get(int, int)", "boolean carry(int, int, int, int, int)",
    "boolean tear(int)", "int barge(int, int, int, int, boolean)", "boolean gate(int, int, int)",
    "boolean lift(int)", "int lies(int, int)", "int field(int, int)", "int count(int)",
    "int room(int, int)", "boolean slide(int, int, int)", "int why(int)", "boolean undo()",
    "boolean redo()", "int fewest()", "int fewestSteps()", "int planned(int, int)",
    "int follow(int, int)", "long all()", "int must(int)", "int low()", "int reach()",
    "int far()", "boolean go()", "int make(int, int)", "int trim()", "boolean turn(boolean)",
    "boolean keep(int)", "int same(int)", "int show(int)", "int out(int)",
  };
  private static int wrong = 0;

  private static void due(String what, Object got, Object want) {
    if (!got.equals(want)) {
      wrong++;
      System.out.println(what + " is " + got + ", due is " + want);
    }
  }

  private static String form(Method m) {
    List<String> types = new ArrayList<>();
    for (Class<?> type : m.getParameterTypes()) {
      types.add(type.getName());
    }
    return m.getReturnType().getName() + " " + m.getName() + "(" + String.join(", ", types) + ")";
  }

  public static void main(String[] args) throws Exception {
    Class<?> face = BargeBasin.class;
    due("the class", Modifier.toString(face.getModifiers()), "public final");
    List<String> seen = new ArrayList<>();
    List<String> hidden = new ArrayList<>();
    for (Method m : face.getDeclaredMethods()) {
      if (Modifier.isPrivate(m.getModifiers())) {
        hidden.add(m.getName());
      } else {
        due(m.getName(), Modifier.toString(m.getModifiers()), "public");
        seen.add(form(m));
      }
    }
    for (Method m : face.getDeclaredMethods()) {
      due("a private " + m.getName(),
          Modifier.isPublic(m.getModifiers()) && hidden.contains(m.getName()), false);
    }
    List<String> wanted = new ArrayList<>(Arrays.asList(FACE));
    Collections.sort(seen);
    Collections.sort(wanted);
    due("the face", seen, wanted);
    due("what out() throws",
        Arrays.asList(face.getMethod("out", int.class).getExceptionTypes()),
        Arrays.asList(NoSuchElementException.class));
    for (Field f : face.getDeclaredFields()) {
      boolean isNone = f.getName().equals("NONE");
      due(f.getName(), Modifier.isPrivate(f.getModifiers()), !isNone);
    }
    due("NONE", Modifier.toString(face.getField("NONE").getModifiers()), "public static final");
    due("NONE", face.getField("NONE").getInt(null), -1);
    for (Constructor<?> c : face.getDeclaredConstructors()) {
      due("the constructor", c.toString(), "public BargeBasin()");
    }
    for (Class<?> inside : face.getDeclaredClasses()) {
      due(inside.getName(), Modifier.isStatic(inside.getModifiers())
          && !Modifier.isPublic(inside.getModifiers())
          && !Modifier.isProtected(inside.getModifiers()), true);
    }
    System.out.println(wrong == 0 ? "the face is as due" : wrong + " things are not as due");
    if (wrong != 0) {
      System.exit(1);
    }
  }
}
