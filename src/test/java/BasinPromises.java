import java.util.NoSuchElementException;

/** Promise by promise: ordinary inputs, the edges that the document names, and wrong inputs. */
public final class BasinPromises {
  private static final int MIN = Integer.MIN_VALUE;
  private static final int MAX = Integer.MAX_VALUE;
  private static int wrong = 0;
  private static int asked = 0;
  private static String promise = "";
  private static BargeBasin x;

  // ---- how a test speaks

  private static void due(String what, long got, long want) {
    asked++;
    if (got != want) {
      wrong++;
      StackTraceElement[] at = new Throwable().getStackTrace();
      System.out.println(promise + ", line " + lineOf(at) + ": " + what + " answered " + got
          + ", due is " + want);
    }
  }

  private static int lineOf(StackTraceElement[] stack) {
    for (StackTraceElement e : stack) {
      if (e.getMethodName().startsWith("promise")) {
        return e.getLineNumber();
      }
    }
    return 0;
  }

  /** A call that has to be answered, with STATUS 0. */
  private static void is(long got, long want) {
    due("the call", got, want);
    due("its status", x.status(), 0);
  }

  private static void yes(boolean got) {
    is(got ? 1 : 0, 1);
  }

  /** A call that has to be refused. */
  private static void no(long got, int status) {
    due("the call", got, -1);
    due("its status", x.status(), status);
  }

  private static void no(boolean got, int status) {
    due("the call", got ? 1 : 0, 0);
    due("its status", x.status(), status);
  }

  private static void fresh(int width, int height) {
    x = new BargeBasin();
    yes(x.basin(width, height));
  }

  /** The basin line by line, as show() tells it, lines parted by blanks. */
  private static String picture() {
    StringBuilder text = new StringBuilder();
    int height = x.count(1);
    for (int y = 0; y < height; y++) {
      int many = x.show(y);
      for (int k = 0; k < many; k++) {
        text.append((char) x.out(k));
      }
      text.append(y < height - 1 ? " " : "");
    }
    return text.toString();
  }

  private static void looks(String want) {
    String got = picture();
    asked++;
    if (!got.equals(want)) {
      wrong++;
      System.out.println(promise + ", line " + lineOf(new Throwable().getStackTrace())
          + ": it looks " + got + ", due is " + want);
    }
  }

  private static boolean outThrows(int k) {
    try {
      x.out(k);
      return false;
    } catch (NoSuchElementException e) {
      return true;
    }
  }

  private static void plan(int... moves) {
    for (int k = 0; k < moves.length / 3; k++) {
      for (int what = 0; what < 3; what++) {
        due("planned(" + k + ", " + what + ")", x.planned(k, what), moves[3 * k + what]);
      }
    }
    due("planned behind the end", x.planned(moves.length / 3, 0), -1);
  }

  private static void wall(int atX, int atY) {
    if (x.get(atY, 0) == -1 && x.status() == 3) {
      yes(x.line(atY, 0, 8));
    }
    yes(x.set(atY, atX, 1));
  }

  /** Walls from signs, lines parted by blanks: # is one. */
  private static void walls(String signs) {
    String[] rows = signs.split(" ");
    for (int y = 0; y < rows.length; y++) {
      for (int i = 0; i < rows[y].length(); i++) {
        if (rows[y].charAt(i) == '#') {
          wall(i, y);
        }
      }
    }
  }

  // ---- the promises

  private static void promise1() {
    x = new BargeBasin();
    due("status", x.status(), 0);
    no(x.count(0), 1);
    no(x.line(0, 0, 3), 1);
    no(x.set(0, 0, 1), 1);
    no(x.get(0, 0), 1);
    no(x.carry(0, 0, 0, 0, 0), 1);
    no(x.tear(0), 1);
    no(x.barge(1, 0, 0, 2, false), 1);
    no(x.barge(9, 0, 0, 2, false), 1);
    no(x.gate(0, 0, 0), 1);
    no(x.lift(0), 1);
    no(x.lies(0, 0), 1);
    no(x.field(0, 0), 1);
    no(x.room(0, 0), 1);
    no(x.slide(0, 0, 1), 1);
    no(x.undo(), 1);
    no(x.redo(), 1);
    no(x.fewest(), 1);
    no(x.fewestSteps(), 1);
    no(x.follow(-1, 0), 1);
    no(x.all(), 1);
    no(x.must(0), 1);
    no(x.low(), 1);
    no(x.reach(), 1);
    no(x.far(), 1);
    no(x.go(), 1);
    no(x.make(-1, 0), 1);
    no(x.trim(), 1);
    no(x.turn(true), 1);
    no(x.keep(9), 1);
    no(x.same(0), 1);
    no(x.show(0), 1);
    due("planned", x.planned(0, 0), -1);
    due("out throws", outThrows(0) ? 1 : 0, 1);
  }

  private static void promise2() {
    fresh(4, 4);
    no(x.field(4, 0), 2);
    due("status stays", x.status(), 2);
    due("why has none", x.why(0), -1);
    due("planned has none", x.planned(0, 0), -1);
    due("out throws", outThrows(0) ? 1 : 0, 1);
    due("status", x.status(), 2);
    is(x.field(0, 0), -3);
  }

  private static void promise3() {
    x = new BargeBasin();
    no(x.basin(2, 5), 2);
    no(x.basin(5, 2), 2);
    no(x.basin(9, 5), 2);
    no(x.basin(5, 9), 2);
    no(x.basin(MIN, MAX), 2);
    no(x.count(0), 1);
    yes(x.basin(3, 8));
    yes(x.line(7, 0, 2));
    is(x.barge(2, 0, 0, 1, false), 0);
    yes(x.slide(0, 1, 1));
    no(x.basin(8, 2), 2);
    looks(".a. ... ... ... ... ... ... ..#");
    is(x.count(6), 1);
    yes(x.basin(8, 3));
    looks("........ ........ ........");
    is(x.count(2), 0);
    is(x.count(6), 0);
    no(x.get(0, 0), 3);
    yes(x.basin(8, 8));
    no(x.get(7, 0), 3);
  }

  private static void promise4() {
    fresh(4, 3);
    no(x.line(3, 0, 4), 2);
    no(x.line(-1, 0, 4), 2);
    no(x.line(0, -1, 4), 2);
    no(x.line(0, 3, 4), 2);
    no(x.line(0, 0, 9), 2);
    no(x.line(0, 3, -1), 2);
    no(x.line(0, 0, -1), 6);
    no(x.line(0, 0, MIN), 6);
    yes(x.line(0, 0, 0));
    yes(x.line(1, 1, 3));
    yes(x.line(2, 2, 8));
    looks("#### ...# ....");
    is(x.get(2, 7), 0);
    yes(x.set(2, 0, 5));
    yes(x.line(2, 2, 4));
    is(x.get(2, 0), 0);
    is(x.barge(1, 1, 1, 2, false), 0);
    no(x.line(1, 0, 2), 7);
    no(x.line(1, 0, 0), 7);
    is(x.get(1, 2), 0);
    yes(x.line(1, 0, 3));
    yes(x.slide(0, 3, 1));
    no(x.line(1, 0, 1), 7);
    is(x.count(6), 1);
    yes(x.line(1, 0, 2));
    is(x.count(6), 0);
  }

  private static void promise5() {
    fresh(4, 3);
    no(x.set(3, 0, 1), 2);
    no(x.set(-1, 0, 1), 2);
    no(x.set(0, 0, 1), 3);
    no(x.set(0, -5, 1), 3);
    yes(x.line(0, 0, 6));
    no(x.set(0, 6, 1), 4);
    no(x.set(0, -1, 1), 4);
    no(x.set(0, MAX, 1), 4);
    yes(x.set(0, 5, 1));
    looks(".... .... ....");
    yes(x.set(0, 3, 128));
    is(x.get(0, 3), -128);
    yes(x.set(0, 3, -129));
    is(x.get(0, 3), 127);
    looks("...# .... ....");
    yes(x.set(0, 3, 512));
    is(x.get(0, 3), 0);
    looks(".... .... ....");
    yes(x.line(1, 1, 4));
    yes(x.set(1, 0, -2));
    is(x.get(1, 0), 65534);
    yes(x.set(1, 0, 65536));
    is(x.get(1, 0), 0);
    yes(x.line(2, 2, 4));
    yes(x.set(2, 0, 32768));
    is(x.get(2, 0), -32768);
    yes(x.set(2, 0, 65536));
    is(x.get(2, 0), 0);
    is(x.barge(2, 0, 0, 1, false), 0);
    no(x.set(0, 0, 1), 7);
    is(x.get(0, 0), 0);
    yes(x.slide(0, 1, 1));
    no(x.set(0, 1, 1), 7);
    is(x.count(6), 1);
    yes(x.set(0, 1, 256));
    is(x.count(6), 0);
    yes(x.set(0, 0, 1));
    no(x.slide(0, 3, 1), 9);
    due("why(1)", x.why(1), 3);
  }

  private static void promise6() {
    fresh(3, 3);
    no(x.get(3, 0), 2);
    no(x.get(MIN, 0), 2);
    no(x.get(2, 0), 3);
    yes(x.line(2, 0, 2));
    no(x.get(2, 2), 4);
    no(x.get(2, -1), 4);
    yes(x.set(2, 1, -1));
    is(x.get(2, 1), -1);
    is(x.get(2, 0), 0);
    yes(x.line(1, 0, 0));
    no(x.get(1, 0), 4);
  }

  private static void promise7() {
    fresh(5, 4);
    no(x.carry(4, 0, 0, 0, 1), 2);
    no(x.carry(0, 0, -1, 0, 1), 2);
    yes(x.line(0, 0, 5));
    no(x.carry(0, 0, 1, 0, 1), 3);
    no(x.carry(1, 0, 0, 0, -1), 3);
    yes(x.line(1, 1, 5));
    no(x.carry(0, 0, 1, 0, -1), 5);
    yes(x.line(1, 0, 4));
    no(x.carry(0, 9, 1, 0, -1), 6);
    no(x.carry(0, 4, 1, 0, 2), 4);
    no(x.carry(0, 0, 1, 3, 2), 4);
    no(x.carry(0, -1, 1, 0, 1), 4);
    no(x.carry(0, 0, 1, -1, 1), 4);
    no(x.carry(0, 0, 1, 0, MAX), 4);
    no(x.carry(0, MAX, 1, MAX, MAX), 4);
    no(x.carry(0, 6, 1, 0, 0), 4);
    yes(x.carry(0, 5, 1, 4, 0));
    for (int i = 0; i < 5; i++) {
      yes(x.set(0, i, i));
    }
    yes(x.carry(0, 1, 1, 0, 3));
    looks(".#### ###.# ..... .....");
    is(x.get(1, 2), 3);
    yes(x.carry(0, 0, 0, 1, 4));
    is(x.get(0, 1), 0);
    is(x.get(0, 2), 1);
    is(x.get(0, 4), 3);
    yes(x.carry(0, 2, 0, 1, 3));
    is(x.get(0, 1), 1);
    is(x.get(0, 3), 3);
    is(x.get(0, 4), 3);
    yes(x.line(2, 0, 5));
    is(x.barge(2, 3, 2, 1, false), 0);
    yes(x.slide(0, 1, 1));
    no(x.carry(0, 1, 2, 2, 3), 7);
    looks(".#### ###.# ....a .....");
    is(x.count(6), 1);
    no(x.carry(0, 1, 2, 2, 4), 4);
    yes(x.carry(0, 1, 2, 1, 3));
    looks(".#### ###.# .###a .....");
    is(x.count(6), 0);
    // a whole line
    fresh(8, 3);
    yes(x.line(0, 2, 8));
    yes(x.line(2, 2, 8));
    yes(x.set(0, 0, -9));
    yes(x.set(0, 7, 9));
    yes(x.carry(0, 0, 2, 0, 8));
    looks("#......# ........ #......#");
    is(x.get(2, 0), -9);
    no(x.carry(0, 0, 2, 0, 9), 4);
  }

  private static void promise8() {
    fresh(3, 3);
    no(x.tear(3), 2);
    no(x.tear(-1), 2);
    no(x.tear(0), 3);
    yes(x.line(0, 0, 0));
    is(x.barge(2, 0, 1, 1, false), 0);
    yes(x.slide(0, 1, 1));
    yes(x.tear(0));
    looks("... .a. ...");
    no(x.tear(0), 3);
    no(x.get(0, 0), 3);
    is(x.count(6), 0);
  }

  private static void promise9() {
    fresh(6, 6);
    no(x.barge(0, 0, 0, 2, false), 2);
    no(x.barge(6, 0, 0, 2, false), 2);
    no(x.barge(1, 0, 0, 1, false), 2);
    no(x.barge(1, 0, 0, 5, false), 2);
    no(x.barge(2, 0, 0, 2, false), 2);
    no(x.barge(3, 0, 0, 1, false), 2);
    no(x.barge(3, 0, 0, 3, false), 2);
    no(x.barge(4, 0, 0, 0, false), 2);
    no(x.barge(5, 0, 0, 1, true), 2);
    no(x.barge(5, 9, 9, 5, true), 2);
    no(x.barge(1, -1, 0, 2, false), 2);
    no(x.barge(1, 0, -1, 2, true), 2);
    no(x.barge(2, 6, 0, 1, false), 2);
    no(x.barge(2, 0, 6, 1, false), 2);
    no(x.barge(1, MAX, MAX, 4, false), 2);
    no(x.barge(3, MIN, MIN, 2, false), 2);
    no(x.barge(1, 5, 0, 2, false), 7);
    no(x.barge(1, 0, 5, 2, true), 7);
    no(x.barge(3, 5, 0, 2, false), 7);
    no(x.barge(3, 0, 5, 2, false), 7);
    no(x.barge(5, 5, 5, 4, true), 7);
    placesRoundABasin();
    fresh(6, 6);
    is(x.barge(1, 0, 0, 4, false), 0);
    is(x.barge(1, 5, 2, 4, true), 1);
    is(x.barge(3, 0, 1, 2, true), 2);
    is(x.barge(4, 2, 1, 1, true), 3);
    is(x.barge(5, 3, 1, 3, true), 4);
    is(x.lies(4, 5), 3);
    is(x.lies(4, 6), 1);
    looks("aaaa.. ccdE.. cc.E.b ...E.b .....b .....b");
    no(x.barge(3, 1, 2, 2, false), 7);
    wall(0, 5);
    no(x.barge(2, 0, 5, 1, false), 7);
    for (int i = 1; i < 5; i++) {
      is(x.barge(2, i, 5, 1, false), 4 + i);
    }
    for (int i = 0; i < 3; i++) {
      is(x.barge(2, i, 4, 1, false), 9 + i);
    }
    no(x.barge(2, 4, 4, 1, false), 8);
    no(x.barge(2, 2, 4, 1, false), 7);
    no(x.barge(2, 4, 4, 2, false), 2);
    is(x.count(2), 12);
    looks("aaaa.. ccdE.. cc.E.b ...E.b jkl..b #fghib");
  }

  /** No FIELD is there, so it is 2 ahead of 7; once wider than high, once higher than wide. */
  private static void placesRoundABasin() {
    for (int turns = 0; turns < 2; turns++) {
      int w = turns == 0 ? 4 : 3;
      int h = 7 - w;
      fresh(w, h);
      for (int i = -1; i <= w; i++) {
        for (int j = -1; j <= h; j++) {
          if (i < 0 || i >= w || j < 0 || j >= h) {
            no(x.barge(2, i, j, 1, false), 2);
            no(x.barge(1, i, j, 2, true), 2);
            no(x.barge(5, i, j, 3, false), 2);
            no(x.barge(3, i, j, 2, false), 2);
            no(x.barge(4, i, j, 1, false), 2);
          }
        }
      }
      is(x.count(2), 0);
    }
  }

  private static void promise10() {
    fresh(6, 4);
    is(x.barge(5, 1, 1, 3, false), 0);
    is(x.barge(5, 5, 0, 2, true), 1);
    is(x.barge(1, 0, 3, 2, false), 2);
    no(x.gate(3, 0, 0), 2);
    no(x.gate(-1, 0, 0), 2);
    no(x.gate(2, 1, 3), 5);
    no(x.gate(2, 5, 0), 5);
    no(x.gate(2, 99, 99), 2);
    no(x.gate(2, 6, 3), 2);
    no(x.gate(0, 4, 1), 7);
    no(x.gate(0, 5, 1), 7);
    no(x.gate(0, 6, 1), 2);
    no(x.gate(0, -1, 1), 2);
    no(x.gate(0, 1, 2), 7);
    no(x.gate(0, MAX, 1), 2);
    no(x.gate(1, 5, 3), 7);
    no(x.gate(1, 5, 4), 2);
    no(x.gate(1, 4, 1), 7);
    no(x.gate(1, 5, -1), 2);
    no(x.gate(1, 5, MIN), 2);
    is(x.count(5), 1);
    yes(x.slide(2, 1, 1));
    yes(x.gate(0, 3, 1));
    is(x.count(6), 0);
    is(x.lies(0, 5), 3);
    is(x.lies(0, 6), 1);
    is(x.count(5), 0);
    yes(x.gate(1, 5, 2));
    is(x.lies(1, 5), 5);
    is(x.lies(1, 6), 2);
    yes(x.slide(1, 2, 2));
    yes(x.slide(0, 1, 2));
    is(x.count(5), 1);
    yes(x.gate(0, 0, 1));
    is(x.count(5), 0);
    wall(0, 1);
    yes(x.gate(0, 0, 1));
  }

  private static void promise11() {
    fresh(4, 3);
    no(x.lift(0), 2);
    is(x.barge(2, 0, 0, 1, false), 0);
    is(x.barge(5, 1, 0, 2, false), 1);
    is(x.barge(3, 2, 1, 2, false), 2);
    yes(x.gate(1, 2, 0));
    yes(x.slide(0, 2, 1));
    no(x.lift(3), 2);
    no(x.lift(-1), 2);
    yes(x.lift(0));
    is(x.count(6), 0);
    looks(".AA. ..bb ..bb");
    is(x.lies(0, 0), 5);
    is(x.lies(0, 5), 2);
    is(x.lies(1, 0), 3);
    is(x.count(2), 2);
    yes(x.lift(1));
    looks(".AA. .... ....");
    is(x.barge(2, 2, 1, 1, false), 1);
    // a red one that is gone is away from its gate no more
    is(x.barge(5, 0, 2, 2, false), 2);
    yes(x.gate(0, 1, 0));
    yes(x.gate(2, 2, 2));
    is(x.count(5), 0);
    is(x.low(), 1);
    yes(x.lift(2));
    is(x.count(5), 1);
    is(x.low(), 0);
    twelve();
  }

  /** As many barges as there can be, all red, in columns of four. */
  private static void twelve() {
    fresh(8, 6);
    for (int i = 0; i < 12; i++) {
      is(x.barge(5, i < 8 ? i : i - 8, i < 8 ? 0 : 3, 2, true), i);
    }
    yes(x.gate(11, 3, 4));
    is(x.low(), 1);
    is(x.count(5), 0);
    yes(x.keep(0));
    yes(x.turn(true));
    looks("HGFEDCBA HGFEDCBA ........ ....LKJI ....LKJI ........");
    yes(x.turn(false));
    looks("....HH ....GG ....FF ....EE .LL.DD .KK.CC .JJ.BB .II.AA");
    is(x.same(0), 2);
    is(x.lies(11, 5), 0);
    is(x.lies(11, 6), 4);
    yes(x.lift(0));
    looks("....GG ....FF ....EE ....DD .KK.CC .JJ.BB .II.AA .HH...");
    is(x.count(2), 11);
  }

  private static void promise12() {
    fresh(6, 5);
    is(x.barge(1, 2, 1, 3, true), 0);
    is(x.barge(2, 0, 0, 1, true), 1);
    is(x.barge(3, 4, 3, 2, true), 2);
    is(x.barge(4, 5, 0, 1, true), 3);
    is(x.barge(5, 0, 4, 2, false), 4);
    yes(x.gate(4, 3, 4));
    long[][] want = {
      {1, 2, 1, 3, 1}, {2, 0, 0, 1, 0}, {3, 4, 3, 2, 0}, {4, 5, 0, 1, 0}, {5, 0, 4, 2, 0},
    };
    for (int b = 0; b < 5; b++) {
      for (int what = 0; what < 5; what++) {
        is(x.lies(b, what), want[b][what]);
      }
    }
    is(x.lies(4, 5), 3);
    is(x.lies(4, 6), 4);
    for (int b = 0; b < 4; b++) {
      no(x.lies(b, 5), 5);
      no(x.lies(b, 6), 5);
    }
    no(x.lies(0, 7), 2);
    no(x.lies(0, -1), 2);
    no(x.lies(5, 0), 2);
    no(x.lies(-1, 5), 2);
    yes(x.slide(0, 0, 1));
    is(x.lies(0, 2), 0);
  }

  private static void promise13() {
    fresh(5, 3);
    wall(4, 0);
    is(x.barge(3, 1, 1, 2, false), 0);
    is(x.barge(5, 0, 0, 4, false), 1);
    is(x.field(4, 0), -2);
    is(x.field(4, 1), -3);
    is(x.field(2, 2), 0);
    is(x.field(3, 0), 1);
    no(x.field(5, 0), 2);
    no(x.field(0, 3), 2);
    no(x.field(-1, 0), 2);
    no(x.field(0, -1), 2);
    no(x.field(MAX, MIN), 2);
  }

  private static void promise14() {
    fresh(5, 3);
    yes(x.line(2, 0, 3));
    yes(x.line(0, 0, 8));
    yes(x.set(0, 6, 1));
    is(x.barge(3, 0, 0, 2, false), 0);
    is(x.barge(5, 2, 0, 2, false), 1);
    long[] want = {5, 3, 2, 2, 7, 1, 0, 0};
    for (int what = 0; what < 8; what++) {
      is(x.count(what), want[what]);
    }
    yes(x.slide(1, 1, 1));
    yes(x.slide(0, 2, 1));
    yes(x.slide(0, 1, 1));
    yes(x.undo());
    is(x.count(5), 0);
    is(x.count(6), 2);
    is(x.count(7), 1);
    is(x.count(4), 7);
    no(x.count(8), 2);
    no(x.count(-1), 2);
  }

  private static void promise15() {
    fresh(8, 8);
    is(x.barge(2, 0, 0, 1, false), 0);
    is(x.barge(1, 2, 3, 2, false), 1);
    is(x.barge(5, 5, 0, 3, true), 2);
    is(x.barge(3, 0, 6, 2, false), 3);
    is(x.barge(4, 7, 7, 1, false), 4);
    long[][] want = {{0, 4, 5, 0}, {0, 4, 0, 2}, {0, 0, 5, 0}, {5, 5, 0, 0}, {7, 0, 0, 5}};
    for (int b = 0; b < 5; b++) {
      for (int d = 0; d < 4; d++) {
        is(x.room(b, d), want[b][d]);
      }
    }
    wall(7, 3);
    is(x.room(1, 1), 3);
    is(x.room(4, 0), 3);
    no(x.room(5, 0), 2);
    no(x.room(-1, 0), 2);
    no(x.room(0, 4), 2);
    no(x.room(0, -1), 2);
    is(x.barge(2, 7, 5, 1, false), 5);
    is(x.room(4, 0), 1);
    yes(x.slide(4, 0, 1));
    for (int d = 0; d < 4; d++) {
      is(x.room(4, d), 0);
    }
    is(x.room(5, 2), 0);
    is(x.room(5, 0), 1);
    // the end of one row is not beside the beginning of the next
    fresh(8, 4);
    is(x.barge(4, 0, 1, 1, false), 0);
    is(x.barge(4, 7, 2, 1, false), 1);
    is(x.barge(2, 7, 0, 1, false), 2);
    is(x.barge(2, 0, 3, 1, false), 3);
    is(x.room(0, 1), 7);
    is(x.room(1, 3), 7);
  }

  private static void promise16() {
    fresh(8, 3);
    is(x.barge(2, 0, 0, 1, false), 0);
    is(x.barge(3, 2, 1, 2, false), 1);
    is(x.barge(5, 7, 0, 2, true), 2);
    no(x.slide(3, 1, 1), 2);
    no(x.slide(-1, 1, 1), 2);
    no(x.slide(0, 4, 1), 2);
    no(x.slide(0, -1, 1), 2);
    no(x.slide(0, 1, 0), 2);
    no(x.slide(0, 1, 8), 2);
    no(x.slide(0, 1, MIN), 2);
    no(x.slide(0, 1, 7), 9);
    looks("a......C ..bb...C ..bb....");
    yes(x.slide(0, 1, 6));
    yes(x.slide(1, 0, 1));
    yes(x.slide(2, 2, 1));
    looks("..bb..a. ..bb...C .......C");
    no(x.slide(0, 3, 3), 9);
    yes(x.slide(0, 3, 2));
    yes(x.slide(0, 2, 2));
    yes(x.slide(0, 3, 4));
    looks("..bb.... ..bb...C a......C");
    is(x.count(6), 6);
  }

  private static void promise17() {
    fresh(6, 6);
    for (int what = -1; what < 4; what++) {
      due("why ahead of any", x.why(what), -1);
    }
    is(x.barge(1, 0, 0, 2, false), 0);
    is(x.barge(2, 3, 3, 1, false), 1);
    is(x.barge(3, 2, 4, 2, false), 2);
    is(x.barge(4, 5, 5, 1, false), 3);
    is(x.barge(2, 2, 3, 1, false), 4);
    wall(5, 0);
    no(x.slide(0, 2, 3), 9);
    why(1, 1, -1);
    no(x.slide(0, 1, 7), 9);
    why(4, 3, -1);
    no(x.slide(0, 3, 2), 9);
    why(1, 2, -1);
    no(x.slide(2, 0, 1), 9);
    why(1, 4, 1);
    no(x.slide(1, 3, 1), 9);
    why(1, 4, 4);
    no(x.slide(2, 1, 2), 9);
    why(2, 4, 3);
    no(x.slide(3, 3, 2), 9);
    why(2, 4, 2);
    yes(x.slide(3, 3, 1));
    why(2, 4, 2);
    no(x.slide(3, 0, 1), 9);
    why(1, 5, 2);
    no(x.slide(3, 2, 1), 9);
    why(1, 2, -1);
    is(x.barge(2, 4, 4, 1, false), 5);
    no(x.slide(3, 1, 1), 9);
    why(1, 5, 2);
    no(x.slide(3, 0, 1), 9);
    why(1, 4, 5);
    no(x.slide(9, 0, 1), 2);
    yes(x.basin(3, 3));
    why(1, 4, 5);
    due("why(3)", x.why(3), -1);
    due("why(-1)", x.why(-1), -1);
    due("status", x.status(), 0);
    // a raft that a wall and a barge are ahead of: the wall is the lesser reason
    is(x.barge(3, 0, 0, 2, false), 0);
    is(x.barge(2, 2, 0, 1, false), 1);
    wall(2, 1);
    no(x.slide(0, 1, 1), 9);
    why(1, 3, -1);
  }

  private static void why(int step, int reason, int barge) {
    due("why(0)", x.why(0), step);
    due("why(1)", x.why(1), reason);
    due("why(2)", x.why(2), barge);
  }

  private static void promise18() {
    fresh(8, 3);
    no(x.undo(), 11);
    is(x.barge(2, 0, 0, 1, false), 0);
    is(x.barge(4, 0, 2, 1, false), 1);
    is(x.barge(5, 3, 1, 2, false), 2);
    yes(x.slide(0, 1, 7));
    yes(x.slide(1, 1, 3));
    looks(".......a ...CC... ...b....");
    no(x.room(1, 9), 2);
    is(x.room(1, 3), 0);
    yes(x.undo());
    looks(".......a ...CC... b.......");
    yes(x.undo());
    looks("a....... ...CC... b.......");
    no(x.undo(), 11);
    for (int i = 0; i < 70; i++) {
      yes(x.slide(0, i % 2 == 0 ? 1 : 3, i == 9 ? 1 : i % 2 == 0 && i != 8 ? 2 : i == 8 ? 1 : 2));
    }
    is(x.count(6), 60);
    for (int i = 0; i < 60; i++) {
      yes(x.undo());
    }
    no(x.undo(), 11);
    is(x.count(7), 60);
    looks("a....... ...CC... b.......");
    for (int call = 0; call < 12; call++) {
      yes(x.slide(0, 1, 1));
      yes(x.slide(2, 1, 1));
      yes(x.undo());
      changeAll(call);
      is(x.count(6), 0);
      is(x.count(7), 0);
      no(x.undo(), 11);
      no(x.redo(), 11);
      start18();
    }
    yes(x.slide(0, 1, 1));
    yes(x.undo());
    yes(x.keep(0));
    is(x.fewest(), 0);
    is(x.reach() > 0 ? 1 : 0, 1);
    no(x.basin(0, 0), 2);
    no(x.lift(7), 2);
    is(x.follow(0, 5), 0);
    yes(x.redo());
    yes(x.undo());
  }

  /** A small basin of the form that promise18 goes on with: tug, moored one, red one. */
  private static void start18() {
    yes(x.basin(6, 3));
    yes(x.line(0, 0, 6));
    yes(x.line(2, 0, 1));
    is(x.barge(2, 0, 0, 1, false), 0);
    is(x.barge(4, 0, 2, 1, false), 1);
    is(x.barge(5, 3, 1, 2, false), 2);
  }

  private static void changeAll(int call) {
    switch (call) {
      case 0: yes(x.basin(8, 3)); break;
      case 1: yes(x.line(0, 0, 8)); break;
      case 2: yes(x.set(0, 4, 1)); break;
      case 3: yes(x.carry(0, 0, 0, 0, 0)); break;
      case 4: yes(x.tear(0)); break;
      case 5: is(x.barge(2, 5, 0, 1, false), 3); break;
      case 6: yes(x.gate(2, 3, 1)); break;
      case 7: yes(x.lift(1)); break;
      case 8: is(x.make(5, 0), 0); break;
      case 9: is(x.trim() >= 0 ? 1 : 0, 1); break;
      case 10: yes(x.turn(true)); break;
      default: yes(x.go()); break;
    }
  }

  private static void promise19() {
    fresh(5, 3);
    no(x.redo(), 11);
    is(x.barge(2, 0, 0, 1, false), 0);
    is(x.barge(1, 0, 1, 3, false), 1);
    yes(x.slide(0, 1, 2));
    yes(x.slide(1, 1, 2));
    yes(x.slide(0, 1, 2));
    no(x.redo(), 11);
    yes(x.undo());
    yes(x.undo());
    looks("..a.. bbb.. .....");
    yes(x.redo());
    looks("..a.. ..bbb .....");
    is(x.count(6), 2);
    is(x.count(7), 1);
    yes(x.redo());
    looks("....a ..bbb .....");
    no(x.redo(), 11);
    yes(x.undo());
    no(x.slide(1, 1, 1), 9);
    is(x.count(7), 1);
    yes(x.slide(1, 3, 1));
    is(x.count(7), 0);
    no(x.redo(), 11);
    yes(x.undo());
    is(x.fewest(), 0);
    is(x.follow(0, 1), 0);
    yes(x.redo());
    looks("..a.. .bbb. .....");
  }

  /** A red one behind a barge across that has to go down, with a tug ahead of its gate. */
  private static void lock() {
    fresh(4, 4);
    is(x.barge(5, 0, 1, 2, false), 0);
    yes(x.gate(0, 2, 1));
    is(x.barge(1, 2, 1, 2, true), 1);
    is(x.barge(2, 3, 1, 1, false), 2);
  }

  private static void promise20() {
    lock();
    is(x.fewest(), 3);
    plan(1, 2, 1, 2, 0, 1, 0, 1, 2);
    is(x.follow(0, 3), 3);
    is(x.count(5), 1);
    is(x.fewest(), 0);
    plan();
    // the shorter of two moves is ahead, and the lower direction
    fresh(5, 5);
    is(x.barge(5, 0, 2, 2, false), 0);
    yes(x.gate(0, 3, 2));
    is(x.barge(2, 3, 2, 1, false), 1);
    is(x.fewest(), 2);
    plan(1, 0, 1, 0, 1, 3);
    // a barge with a lower number is ahead
    is(x.barge(2, 0, 4, 1, false), 2);
    is(x.fewest(), 2);
    plan(1, 0, 1, 0, 1, 3);
    // no plan: a wall is in the way for good
    wall(4, 2);
    no(x.fewest(), 11);
    plan(1, 0, 1, 0, 1, 3);
    tooMany();
    no(x.fewest(), 10);
    // no red one at all, so it is freed, but there are too many stands to look for it
    fresh(8, 8);
    is(x.barge(2, 0, 0, 1, false), 0);
    is(x.barge(2, 1, 0, 1, false), 1);
    is(x.fewest(), 0);
    is(x.barge(2, 2, 0, 1, false), 2);
    is(x.count(5), 1);
    no(x.fewest(), 10);
    moored();
    crowd();
  }

  /** Twelve barges, the last of which have to move. */
  private static void crowd() {
    fresh(8, 8);
    walls("######## ######## ######## ######## ######## ######## ........ ...#.#..");
    for (int i = 0; i < 8; i++) {
      wall(i, 5);
      yes(x.set(4, i, 0));
    }
    for (int i = 0; i < 8; i++) {
      is(x.barge(2, i, 4, 1, false), i);
    }
    is(x.barge(2, 4, 6, 1, false), 8);
    is(x.barge(2, 7, 6, 1, false), 9);
    is(x.barge(5, 0, 6, 2, false), 10);
    yes(x.gate(10, 6, 6));
    is(x.fewest(), 3);
    plan(8, 2, 1, 9, 2, 1, 10, 1, 6);
    // either tug may go first
    is(x.all(), 2);
    is(x.must(7), 0);
    for (int b = 8; b < 11; b++) {
      is(x.must(b), 1);
    }
    is(x.fewestSteps(), 8);
    is(x.follow(0, 8), 8);
    looks("######## ######## ######## ######## abcdefgh ######## ......KK ...#i#.j");
  }

  /** A moored one that comes to lie beside another can't go on: moves have no way back. */
  private static void moored() {
    fresh(4, 3);
    walls("#### .... ####");
    is(x.barge(4, 1, 1, 1, false), 0);
    is(x.barge(5, 2, 1, 2, false), 1);
    is(x.reach(), 1);
    yes(x.gate(1, 1, 1));
    no(x.fewest(), 11);
    fresh(5, 3);
    walls("#.### ..... #####");
    is(x.barge(4, 2, 1, 1, false), 0);
    is(x.barge(5, 3, 1, 2, false), 1);
    yes(x.gate(1, 0, 1));
    is(x.reach(), 1);
    yes(x.lift(0));
    is(x.barge(4, 1, 1, 1, false), 1);
    yes(x.gate(0, 1, 1));
    is(x.fewest(), 2);
    plan(1, 0, 1, 0, 3, 2);
    // moored one at (0, 1): red in 3 places, at (1, 0): 4, at (1, 1): 2, at (2, 1): 1
    is(x.reach(), 10);
    // the farthest: the red one is beside the moored one, and has to go back first
    is(x.far(), 3);
    yes(x.go());
    looks("#.### .bAA. #####");
    is(x.fewest(), 3);
    plan(0, 1, 1, 1, 0, 1, 0, 3, 2);
  }

  /** Eight rows with one barge each: 5 * 5 * 5 * 2 * 2 * 2 * 2 * (3 or 4) stands. */
  private static void rows(int last) {
    fresh(8, 8);
    walls("........ ........ ........ ...##### ...##### ...##### ...##### "
        + (last == 3 ? "....####" : ".....###"));
    is(x.barge(5, 0, 0, 4, false), 0);
    yes(x.gate(0, 4, 0));
    for (int y = 1; y < 8; y++) {
      is(x.barge(1, 0, y, y < 3 ? 4 : 2, false), y);
    }
  }

  private static void tooMany() {
    rows(4);
  }

  private static void promise21() {
    lock();
    is(x.fewestSteps(), 4);
    plan(1, 2, 1, 0, 1, 1, 2, 0, 1, 0, 1, 1);
    is(x.follow(0, 9), 4);
    is(x.count(6), 4);
    is(x.fewestSteps(), 0);
    plan();
    wall(0, 0);
    yes(x.gate(0, 0, 1));
    wall(0, 1);
    no(x.fewestSteps(), 11);
    plan();
    tooMany();
    no(x.fewestSteps(), 10);
    // fewer moves and fewer steps are not the same plan
    fresh(4, 4);
    is(x.barge(5, 0, 0, 2, false), 0);
    yes(x.gate(0, 2, 0));
    is(x.fewest(), 1);
    plan(0, 1, 2);
    is(x.fewestSteps(), 2);
    plan(0, 1, 1, 0, 1, 1);
  }

  private static void promise22() {
    x = new BargeBasin();
    due("no plan", x.planned(0, 0), -1);
    lock();
    due("no plan", x.planned(0, 0), -1);
    is(x.fewest(), 3);
    for (int k = -2; k < 5; k++) {
      due("planned", x.planned(k, -1), -1);
      due("planned", x.planned(k, 3), -1);
    }
    due("planned", x.planned(-1, 0), -1);
    due("planned", x.planned(MAX, 0), -1);
    due("planned", x.planned(MIN, 0), -1);
    no(x.field(9, 9), 2);
    due("planned", x.planned(2, 2), 2);
    due("status", x.status(), 2);
    yes(x.basin(3, 3));
    plan(1, 2, 1, 2, 0, 1, 0, 1, 2);
    is(x.make(1, 3) >= 0 ? 1 : 0, 1);
    plan(1, 2, 1, 2, 0, 1, 0, 1, 2);
  }

  private static void promise23() {
    lock();
    no(x.follow(0, 1), 11);
    no(x.follow(-1, 1), 2);
    no(x.follow(0, -1), 2);
    is(x.fewest(), 3);
    no(x.follow(MIN, 1), 2);
    no(x.follow(0, MIN), 2);
    is(x.follow(3, 1), 0);
    is(x.follow(MAX, MAX), 0);
    is(x.follow(0, 0), 0);
    is(x.follow(2, 1), 0);
    due("why is slide()'s alone", x.why(0), -1);
    is(x.follow(0, 1), 1);
    is(x.follow(1, MAX), 2);
    looks("...c ..AA ..b. ..b.");
    is(x.count(6), 3);
    yes(x.undo());
    is(x.count(7), 1);
    is(x.follow(0, 3), 0);
    is(x.count(7), 1);
    is(x.follow(2, 3), 1);
    is(x.count(7), 0);
    // the plan stays when its barges are others, or gone
    yes(x.basin(4, 4));
    is(x.follow(0, 3), 0);
    is(x.barge(2, 0, 0, 1, false), 0);
    is(x.follow(0, 1), 0);
    is(x.barge(1, 2, 1, 2, false), 1);
    is(x.follow(0, 3), 0);
    is(x.follow(2, 1), 1);
    looks("..a. ..bb .... ....");
    is(x.follow(1, 1), 0);
    lock();
    is(x.fewest(), 3);
    yes(x.lift(2));
    yes(x.lift(1));
    is(x.follow(0, 1), 0);
    looks(".... AA.. .... ....");
  }

  private static void promise24() {
    // the barge goes down; the tug goes up 1, down 1 or down 2, ahead of that or behind it
    lock();
    is(x.all(), 6);
    due("all() keeps no plan", x.planned(0, 0), -1);
    yes(x.lift(2));
    is(x.all(), 1);
    yes(x.slide(1, 2, 1));
    yes(x.slide(0, 1, 2));
    is(x.all(), 1);
    wall(0, 1);
    yes(x.gate(0, 0, 1));
    no(x.all(), 11);
    tooMany();
    no(x.all(), 10);
    // tug 1 first (down): tug 2 has 3 moves (down, right 2, right 3); tug 2 first, down: tug 1
    // has 3 (down, right 4, right 5); tug 2 right 2: 1; tug 2 right 3: 2
    fresh(8, 3);
    walls("######## ........ #.......");
    is(x.barge(5, 0, 1, 2, false), 0);
    yes(x.gate(0, 4, 1));
    is(x.barge(2, 2, 1, 1, false), 1);
    is(x.barge(2, 4, 1, 1, false), 2);
    is(x.fewest(), 3);
    is(x.all(), 9);
    manyPlans();
    tooManyPlans();
    sumsOfPlans();
  }

  /**
   * Tugs in a stair that have all to go on by five, for three red ones to come up behind them. The
   * due numbers were counted by a program of its own with numbers of any size.
   */
  private static void tooManyPlans() {
    stair(7);
    is(x.reach(), 2587);
    is(x.all(), 30652662483245088L);
    stair(8);
    is(x.reach(), 3850);
    is(x.fewest(), 43);
    // 27138289995672495640, which is 65 bits, and so it stays with the one move that can be first
    no(x.all(), 10);
    is(x.follow(0, 1), 1);
    no(x.all(), 10);
    // 14705903316187374720: 64 bits
    is(x.follow(1, 1), 1);
    no(x.all(), 10);
    // 5501133808513134792: 63 bits
    is(x.follow(2, 1), 1);
    no(x.all(), 10);
    is(x.follow(3, 1), 1);
    is(x.all(), 1529511947845264548L);
    is(x.follow(4, 1), 1);
    is(x.all(), 321265460828757588L);
    for (int i = 0; i < 5; i++) {
      yes(x.undo());
    }
    // only the stands are counted for these, and they are few enough
    for (int b = 0; b < 11; b++) {
      is(x.must(b), 1);
    }
    is(x.fewestSteps(), 45);
    is(x.far(), 43);
    stair(9);
    is(x.reach(), 5553);
    is(x.fewest(), 48);
    no(x.all(), 10);
    is(x.follow(0, 9), 9);
    is(x.all(), 48480777744759360L);
  }

  /** Fields (0, 0), (1, 0), (1, 1), (2, 1) and so on, with so many tugs in the first of them. */
  private static void stair(int tugs) {
    fresh(8, 8);
    for (int y = 0; y < 8; y++) {
      yes(x.line(y, 0, 8));
      for (int at = 0; at < 8; at++) {
        boolean onStair = (at == y || at == y + 1) && at + y < tugs + 5;
        boolean underStair = at < 3 && y > at && y <= at + (at == 0 ? 2 : 3);
        if (!onStair && !underStair) {
          yes(x.set(y, at, 1));
        }
      }
    }
    is(x.barge(5, 0, 1, 2, true), 0);
    is(x.barge(5, 1, 2, 3, true), 1);
    is(x.barge(5, 2, 3, 3, true), 2);
    yes(x.gate(0, 0, 0));
    yes(x.gate(1, 1, 0));
    yes(x.gate(2, 2, 1));
    for (int i = 0; i < tugs; i++) {
      is(x.barge(2, (i + 1) / 2, i / 2, 1, false), 3 + i);
    }
  }

  /** The very edge, which no basin known here comes to. */
  private static void sumsOfPlans() {
    long most = 1L << 62;
    due("a sum below", sum(most - 2, 1), most - 1);
    due("a sum that is it", sum(most - 1, 1), most);
    due("a sum above", sum(most, most), most);
    due("a sum above", sum(most - 1, most - 1), most);
  }

  private static long sum(long a, long b) {
    try {
      java.lang.reflect.Method capped = Class.forName("BargeBasin$Search")
          .getDeclaredMethod("capped", long.class, long.class);
      capped.setAccessible(true);
      return (Long) capped.invoke(null, a, b);
    } catch (ReflectiveOperationException e) {
      return -1;
    }
  }

  /** A row of moves that are free of one another: their orders are counted. */
  private static void manyPlans() {
    fresh(8, 8);
    walls("........ ........ ........ ........ ........ ........ ######## ########");
    for (int i = 0; i < 6; i++) {
      is(x.barge(5, i, 0, 3, true), i);
      yes(x.gate(i, i, 1));
    }
    // each of the six may lie in 4 places: 4096 stands, and only one step each is wanted
    is(x.reach(), 4096);
    is(x.fewest(), 6);
    is(x.all(), 720);
    for (int i = 0; i < 6; i++) {
      is(x.must(i), 1);
    }
    is(x.far(), 6);
  }

  private static void promise25() {
    lock();
    no(x.must(3), 2);
    no(x.must(-1), 2);
    is(x.barge(2, 0, 3, 1, false), 3);
    for (int b = 0; b < 4; b++) {
      is(x.must(b), b < 3 ? 1 : 0);
    }
    no(x.follow(0, 0), 11);
    // a barge that could move, but is in nobody's way
    fresh(4, 3);
    is(x.barge(5, 0, 0, 2, false), 0);
    yes(x.gate(0, 1, 0));
    is(x.barge(1, 1, 1, 2, true), 1);
    is(x.must(0), 1);
    is(x.must(1), 0);
    yes(x.slide(0, 1, 1));
    is(x.must(0), 0);
    wall(0, 0);
    yes(x.gate(0, 0, 0));
    no(x.must(0), 11);
    no(x.must(7), 2);
    tooMany();
    no(x.must(8), 2);
    no(x.must(7), 10);
  }

  private static void promise26() {
    fresh(6, 6);
    is(x.low(), 0);
    is(x.barge(5, 0, 2, 2, false), 0);
    is(x.barge(2, 5, 2, 1, false), 1);
    is(x.barge(1, 3, 1, 3, true), 2);
    is(x.barge(3, 0, 3, 2, false), 3);
    is(x.low(), 0);
    yes(x.gate(0, 4, 2));
    is(x.low(), 3);
    yes(x.gate(0, 3, 2));
    is(x.low(), 2);
    yes(x.gate(0, 1, 2));
    is(x.low(), 1);
    // a red one at its gate counts where it is in another's way, and each counts once
    yes(x.gate(0, 3, 2));
    is(x.barge(5, 2, 0, 3, true), 4);
    is(x.low(), 3);
    yes(x.gate(4, 2, 3));
    is(x.low(), 3);
    is(x.barge(2, 2, 5, 1, false), 5);
    is(x.low(), 4);
    // upwards and to the left, too
    yes(x.basin(5, 5));
    is(x.barge(5, 3, 0, 2, false), 0);
    yes(x.gate(0, 0, 0));
    is(x.barge(5, 2, 3, 2, true), 1);
    yes(x.gate(1, 2, 0));
    is(x.barge(2, 2, 0, 1, false), 2);
    is(x.low(), 3);
    is(x.barge(2, 2, 2, 1, false), 3);
    is(x.barge(2, 1, 2, 1, false), 4);
    is(x.low(), 4);
  }

  private static void promise27() {
    fresh(3, 3);
    is(x.reach(), 1);
    is(x.barge(2, 0, 0, 1, false), 0);
    is(x.reach(), 9);
    is(x.barge(2, 1, 0, 1, false), 1);
    is(x.reach(), 72);
    is(x.barge(1, 0, 1, 3, false), 2);
    is(x.reach(), 3);
    rows(3);
    is(x.reach(), 6000);
    is(x.fewest(), 1);
    is(x.far(), 1);
    is(x.all(), 1);
    is(x.must(0), 1);
    rows(4);
    no(x.reach(), 10);
    due("far of too many", x.far(), -1);
    fresh(8, 8);
    is(x.barge(2, 0, 0, 1, false), 0);
    is(x.barge(2, 1, 0, 1, false), 1);
    is(x.reach(), 64 * 63);
    // twelve tugs, so that all places of a stand are told apart
    fresh(4, 4);
    for (int i = 0; i < 12; i++) {
      is(x.barge(2, i % 4, i / 4, 1, false), i);
    }
    no(x.reach(), 10);
    fresh(8, 8);
    walls("..###### ######## .######. .######. .######. .######. .######. .######.");
    for (int i = 0; i < 11; i++) {
      is(x.barge(2, i < 6 ? 0 : 7, i < 6 ? 2 + i : i - 3 + (i == 11 ? 1 : 0), 1, false), i);
    }
    is(x.barge(2, 0, 0, 1, false), 11);
    // the right column has five tugs in six fields, the corner one tug in two
    is(x.reach(), 12);
  }

  private static void promise28() {
    lock();
    is(x.far(), 3);
    due("far() keeps no plan", x.planned(0, 0), -1);
    is(x.fewest(), 3);
    is(x.follow(0, 3), 3);
    is(x.far(), 3);
    wall(0, 1);
    yes(x.gate(0, 0, 1));
    no(x.far(), 11);
    tooMany();
    no(x.far(), 10);
  }

  private static void promise29() {
    lock();
    is(x.fewest(), 3);
    is(x.follow(0, 3), 3);
    yes(x.go());
    is(x.fewest(), 3);
    is(x.count(6), 0);
    no(x.undo(), 11);
    looks(".... AAbc ..b. ....");
    // one row: from the gate, the first come to of the farthest is by the lowest barge
    fresh(3, 3);
    walls("### ... ###");
    is(x.barge(5, 1, 1, 2, false), 0);
    yes(x.go());
    looks("### AA. ###");
    yes(x.go());
    looks("### AA. ###");
    // two red ones in rows of their own: both away
    fresh(4, 3);
    is(x.barge(5, 0, 0, 2, false), 0);
    is(x.barge(5, 0, 1, 2, false), 1);
    yes(x.go());
    looks(".AA. .BB. ....");
    wall(0, 0);
    no(x.go(), 11);
    looks("#AA. .BB. ....");
    tooMany();
    no(x.go(), 10);
    fresh(3, 3);
    yes(x.go());
  }

  private static void promise30() {
    fresh(6, 6);
    is(x.barge(5, 0, 0, 2, false), 0);
    no(x.make(-1, 3), 2);
    no(x.make(MIN, 3), 2);
    no(x.make(3, 13), 2);
    no(x.make(3, -1), 2);
    looks("AA.... ...... ...... ...... ...... ......");
    is(x.make(1, 0), 0);
    looks("...... ...... ...... ...... ...... ......");
    // drawn from 1: 16838, 5758, 10113, 17515, 31051, 5627, 23010, 7419 ..
    // 16838 below 6 is 2: across; 5758 below 3 is 1: length 3; x 10113 below 6 is 3; y 17515
    // below 6 is 1. 31051 is 1: across; 5627 is 2: length 4; x 23010 is 0; y 7419 is 3: too long.
    is(x.make(1, 1), 1);
    looks("...... ...a.. ...a.. ...a.. ...... ......");
    made(MAX, 12);
    for (int seed = 0; seed < 40; seed++) {
      fresh(3 + seed % 6, 8 - seed % 5);
      wall(seed % 3, seed % 4);
      made(seed, 1 + seed % 12);
    }
    // so narrow that many are left out at last
    for (int seed = 0; seed < 60; seed++) {
      fresh(4, 3);
      made(seed, 12);
    }
  }

  private static void made(int seed, int barges) {
    is(x.make(0, 0), 0);
    String want = drawn(seed, barges);
    is(x.make(seed, barges), letters(want));
    looks(want);
  }

  private static int letters(String picture) {
    int most = 0;
    for (int i = 0; i < picture.length(); i++) {
      most = Math.max(most, picture.charAt(i) - 'a' + 1);
    }
    return most;
  }

  /** What make() has to come to, painted on a sheet of characters. */
  private static String drawn(long seed, int barges) {
    String[] rows = picture().split(" ");
    char[][] sheet = new char[rows.length][];
    for (int y = 0; y < rows.length; y++) {
      sheet[y] = rows[y].toCharArray();
    }
    long[] s = {seed};
    char letter = 'a';
    for (int b = 0; b < barges; b++) {
      for (int t = 0; t < 20; t++) {
        int sort = draw(s, 6);
        int wide = sort == 4 ? 2 : 1;
        int high = wide;
        if (sort != 3 && sort != 4) {
          int length = draw(s, 3) + 2;
          wide = sort == 0 || sort == 5 ? length : 1;
          high = wide == 1 ? length : 1;
        }
        int atX = draw(s, sheet[0].length);
        int atY = draw(s, sheet.length);
        if (paint(sheet, atX, atY, wide, high, letter)) {
          letter++;
          break;
        }
      }
    }
    StringBuilder text = new StringBuilder();
    for (char[] row : sheet) {
      text.append(text.length() > 0 ? " " : "").append(row);
    }
    return text.toString();
  }

  private static int draw(long[] s, int n) {
    s[0] = (1103515245L * s[0] + 12345L) % 2147483648L;
    return (int) (s[0] / 65536 % n);
  }

  private static boolean paint(char[][] sheet, int atX, int atY, int wide, int high, char letter) {
    for (int round = 0; round < 2; round++) {
      for (int y = atY; y < atY + high; y++) {
        for (int i = atX; i < atX + wide; i++) {
          if (y >= sheet.length || i >= sheet[0].length || round == 0 && sheet[y][i] != '.') {
            return false;
          }
          if (round == 1) {
            sheet[y][i] = letter;
          }
        }
      }
    }
    return true;
  }

  private static void promise31() {
    // the tug in its pocket is not needed; barge and tug in the way are, for 3 moves; no wall is
    fresh(5, 4);
    walls("....# ....# ....# ...#.");
    is(x.barge(5, 0, 1, 2, false), 0);
    yes(x.gate(0, 2, 1));
    is(x.barge(1, 2, 1, 2, true), 1);
    is(x.barge(2, 3, 1, 1, false), 2);
    is(x.barge(2, 4, 3, 1, false), 3);
    is(x.far(), 3);
    yes(x.slide(2, 0, 1));
    is(x.trim(), 5);
    looks("...c. AAb.. ..b.. .....");
    no(x.undo(), 11);
    is(x.far(), 3);
    // the tug has to leave the row by a corner; without a wall beside (3, 1) it would be nearer
    fresh(5, 3);
    walls("####. ..... #####");
    yes(x.line(1, 2, 5));
    is(x.barge(5, 0, 1, 2, false), 0);
    yes(x.gate(0, 3, 1));
    is(x.barge(2, 2, 1, 1, false), 1);
    is(x.far(), 3);
    is(x.trim(), 7);
    looks("...#. AAb.. ...#.");
    is(x.get(0, 3), 1);
    is(x.get(0, 2), 0);
    yes(x.set(1, 4, 300));
    is(x.get(1, 4), 44);
    no(x.get(1, 5), 4);
    // only walls, or none, tell whether lines are laid anew
    lock();
    yes(x.line(3, 1, 4));
    is(x.far(), 3);
    is(x.trim(), 0);
    yes(x.set(3, 0, 300));
    is(x.get(3, 0), 300);
    no(x.get(0, 0), 3);
    // freed in each stand: all that is not red can go, walls too
    fresh(4, 3);
    yes(x.line(0, 2, 8));
    yes(x.set(0, 3, -7));
    is(x.barge(5, 0, 1, 2, false), 0);
    is(x.barge(2, 0, 0, 1, false), 1);
    is(x.barge(4, 3, 2, 1, false), 2);
    yes(x.line(1, 1, 2));
    is(x.trim(), 5);
    looks(".... AA.. ....");
    for (int y = 0; y < 3; y++) {
      is(x.get(y, 3), 0);
      no(x.get(y, 4), 4);
      yes(x.set(y, 3, 200));
      is(x.get(y, 3), -56);
    }
    // walls are taken away y by y, x by x, for as long as it stays as hard
    fresh(4, 3);
    walls("...# .... ....");
    is(x.barge(5, 0, 0, 2, false), 0);
    yes(x.gate(0, 1, 0));
    is(x.trim(), 1);
    looks("AA.. .... ....");
    fresh(4, 3);
    yes(x.line(2, 1, 3));
    walls("AA.# .... ....");
    is(x.barge(5, 0, 0, 2, false), 0);
    yes(x.gate(0, 2, 0));
    no(x.trim(), 11);
    looks("AA.# .... ...#");
    no(x.set(2, 3, 1), 4);
    tooMany();
    no(x.trim(), 10);
    // without one barge there are too many stands: it stays
    fresh(8, 8);
    for (int i = 0; i < 3; i++) {
      is(x.barge(2, i, 0, 1, false), i);
    }
    for (int i = 0; i < 6; i += 2) {
      is(x.barge(1, i, 1, 2, false), 3 + i / 2);
    }
    is(x.barge(1, 3, 0, 4, false), 6);
    is(x.barge(1, 6, 1, 2, false), 7);
    wall(7, 0);
    is(x.reach(), 1);
    // while the tugs are there, each barge below them is kept: without it they come out
    is(x.trim(), 5);
    looks("........ aabbccdd ........ ........ ........ ........ ........ ........");
  }

  private static void promise32() {
    fresh(5, 3);
    yes(x.line(0, 1, 5));
    yes(x.set(0, 4, 999));
    is(x.barge(5, 0, 0, 3, false), 0);
    yes(x.gate(0, 1, 0));
    is(x.barge(3, 3, 1, 2, true), 1);
    is(x.barge(1, 0, 1, 2, true), 2);
    is(x.barge(4, 1, 1, 1, true), 3);
    looks("AAA.# cd.bb c..bb");
    yes(x.turn(true));
    looks("#.AAA bb.dc bb..c");
    is(x.lies(0, 5), 1);
    is(x.lies(0, 6), 0);
    is(x.lies(0, 1), 2);
    is(x.get(0, 0), 1);
    is(x.get(0, 4), 0);
    no(x.get(0, 5), 4);
    is(x.get(2, 0), 0);
    yes(x.turn(true));
    looks("AAA.# cd.bb c..bb");
    yes(x.turn(false));
    looks("ccA .dA ..A bb. bb#");
    is(x.count(0), 3);
    is(x.count(1), 5);
    is(x.lies(0, 4), 1);
    is(x.lies(0, 5), 2);
    is(x.lies(0, 6), 1);
    is(x.lies(1, 4), 0);
    is(x.lies(2, 4), 0);
    is(x.lies(3, 4), 0);
    is(x.get(4, 2), 1);
    no(x.get(4, 3), 4);
    yes(x.turn(false));
    looks("bb..c bb.dc #.AAA");
    yes(x.turn(false));
    looks("#bb .bb A.. Ad. Acc");
    is(x.lies(0, 6), 1);
    yes(x.turn(false));
    looks("AAA.# cd.bb c..bb");
    is(x.lies(0, 5), 1);
    is(x.lies(0, 6), 0);
    is(x.room(0, 1), 1);
    yes(x.slide(0, 1, 1));
    is(x.count(5), 1);
    yes(x.turn(true));
    is(x.count(5), 1);
    no(x.undo(), 11);
  }

  private static void promise33() {
    fresh(4, 3);
    no(x.keep(-1), 2);
    no(x.keep(4), 2);
    is(x.barge(2, 0, 0, 1, false), 0);
    yes(x.slide(0, 1, 1));
    yes(x.keep(0));
    is(x.count(6), 1);
    yes(x.slide(0, 1, 1));
    yes(x.slide(0, 2, 1));
    yes(x.keep(3));
    is(x.same(3), 1);
    is(x.same(0), 0);
    yes(x.undo());
    yes(x.undo());
    is(x.same(0), 1);
    is(x.same(3), 0);
    yes(x.keep(3));
    is(x.same(3), 1);
    yes(x.basin(5, 5));
    is(x.same(0), 0);
    yes(x.basin(4, 3));
    is(x.barge(2, 1, 0, 1, false), 0);
    is(x.same(0), 1);
  }

  private static void promise34() {
    fresh(5, 4);
    no(x.same(0), 11);
    no(x.same(4), 2);
    no(x.same(-1), 2);
    wall(4, 0);
    is(x.barge(5, 0, 0, 3, false), 0);
    yes(x.gate(0, 1, 0));
    is(x.barge(1, 0, 1, 2, true), 1);
    is(x.barge(2, 3, 3, 1, false), 2);
    yes(x.keep(1));
    is(x.same(1), 1);
    for (int t = 0; t < 4; t++) {
      yes(x.turn(false));
      is(x.same(1), t == 3 ? 1 : 2);
    }
    yes(x.turn(true));
    for (int t = 0; t < 4; t++) {
      is(x.same(1), 2);
      yes(x.turn(false));
    }
    // numbers do not count, gates and kinds do
    yes(x.basin(5, 4));
    wall(4, 0);
    is(x.barge(2, 3, 3, 1, false), 0);
    is(x.barge(1, 0, 1, 2, true), 1);
    is(x.barge(5, 0, 0, 3, false), 2);
    is(x.same(1), 0);
    yes(x.gate(2, 1, 0));
    is(x.same(1), 1);
    yes(x.turn(true));
    is(x.same(1), 2);
    yes(x.turn(true));
    is(x.same(1), 1);
    wall(4, 3);
    is(x.same(1), 0);
    yes(x.set(3, 4, 0));
    is(x.same(1), 1);
    yes(x.lift(0));
    is(x.same(1), 0);
    is(x.barge(4, 3, 3, 1, false), 2);
    is(x.same(1), 0);
    yes(x.lift(2));
    is(x.barge(2, 3, 3, 1, false), 2);
    is(x.same(1), 1);
    is(x.barge(2, 2, 3, 1, false), 3);
    is(x.same(1), 0);
    // a barge more on the shelf than in the basin
    yes(x.keep(2));
    yes(x.lift(3));
    is(x.same(2), 0);
    // the same fields, but of other lengths and ways
    yes(x.basin(4, 4));
    is(x.barge(1, 0, 0, 2, false), 0);
    is(x.barge(1, 0, 1, 2, false), 1);
    yes(x.keep(0));
    yes(x.basin(4, 4));
    is(x.barge(1, 0, 0, 2, true), 0);
    is(x.barge(1, 1, 0, 2, true), 1);
    is(x.same(0), 2);
    yes(x.basin(4, 4));
    is(x.barge(3, 0, 0, 2, true), 0);
    is(x.same(0), 0);
    // a basin that is its own mirror image is the same, not a turned one
    yes(x.basin(4, 4));
    is(x.barge(3, 1, 1, 2, true), 0);
    yes(x.keep(0));
    yes(x.turn(false));
    is(x.same(0), 1);
    // with nothing in them, they differ in their sides alone
    yes(x.basin(4, 5));
    yes(x.keep(0));
    yes(x.basin(4, 4));
    is(x.same(0), 0);
    yes(x.basin(5, 5));
    is(x.same(0), 0);
    yes(x.basin(5, 4));
    is(x.same(0), 2);
    // one that is not freed is another than one that is
    yes(x.basin(3, 3));
    is(x.barge(5, 0, 0, 2, false), 0);
    yes(x.keep(0));
    yes(x.slide(0, 1, 1));
    is(x.same(0), 0);
    yes(x.gate(0, 1, 0));
    is(x.same(0), 2);
  }

  private static void promise35() {
    fresh(8, 3);
    no(x.show(3), 2);
    no(x.show(-1), 2);
    wall(7, 0);
    is(x.barge(5, 0, 0, 4, false), 0);
    for (int i = 0; i < 8; i++) {
      is(x.barge(2, i, 2, 1, false), 1 + i);
    }
    is(x.barge(2, 0, 1, 1, false), 9);
    is(x.barge(5, 1, 1, 2, false), 10);
    is(x.barge(5, 3, 1, 3, false), 11);
    looks("AAAA...# jKKLLL.. bcdefghi");
    is(x.show(1), 8);
    no(x.show(8), 2);
    due("out stays", x.out(0), 'j');
    yes(x.basin(3, 3));
    due("out stays", x.out(7), '.');
    is(x.show(0), 3);
    due("out throws", outThrows(3) ? 1 : 0, 1);
  }

  private static void promise36() {
    fresh(3, 4);
    wall(2, 1);
    for (int k = -1; k < 4; k++) {
      due("out throws", outThrows(k) ? 1 : 0, 1);
    }
    is(x.barge(2, 1, 1, 1, false), 0);
    is(x.show(1), 3);
    no(x.count(99), 2);
    due("out", x.out(0), '.');
    due("out", x.out(1), 'a');
    due("out", x.out(2), '#');
    due("out throws", outThrows(-1) ? 1 : 0, 1);
    due("out throws", outThrows(3) ? 1 : 0, 1);
    due("out throws", outThrows(MAX) ? 1 : 0, 1);
    due("out throws", outThrows(MIN) ? 1 : 0, 1);
    due("status", x.status(), 2);
    yes(x.lift(0));
    due("out as it was", x.out(1), 'a');
  }

  public static void main(String[] args) throws Exception {
    for (int k = 1; k <= 36; k++) {
      promise = "promise " + k;
      BasinPromises.class.getDeclaredMethod("promise" + k).invoke(null);
    }
    System.out.println(asked + " answers");
    System.out.println(wrong == 0 ? "all answers are as due" : wrong + " answers are not as due");
    if (wrong != 0) {
      System.exit(1);
    }
  }
}
