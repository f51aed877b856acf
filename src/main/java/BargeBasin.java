import java.util.NoSuchElementException;

public final class BargeBasin {
  public static final int NONE = -1;

  private static final int FINE = 0;
  private static final int NO_BASIN = 1;
  private static final int NO_SUCH = 2;
  private static final int LINE_MISSING = 3;
  private static final int PAST_END = 4;
  private static final int OTHER_KIND = 5;
  private static final int BELOW_ZERO = 6;
  private static final int IN_THE_WAY = 7;
  private static final int TOO_MANY = 8;
  private static final int CANNOT_SLIDE = 9;
  private static final int SPENT = 10;
  private static final int NOTHING_THERE = 11;

  private static final int KIND_BARGE = 1;
  private static final int KIND_TUG = 2;
  private static final int KIND_RAFT = 3;
  private static final int KIND_MOORED = 4;
  private static final int KIND_RED = 5;

  private static final int LEAST_SIDE = 3;
  private static final int SIDE = 8;
  private static final int MOST_BARGES = 12;
  private static final int MOST_STEPS = 7;
  private static final int DIRECTIONS = 4;
  private static final int SHELVES = 4;
  private static final int TRIES = 20;
  private static final int WALL_SIGN = -2;
  private static final int EMPTY_SIGN = -3;
  private static final long ROW = 255L;

  private static final int[] STEP_X = {0, 1, 0, -1};
  private static final int[] STEP_Y = {-1, 0, 1, 0};
  /** A FIELD's number is 8 y + x, so that a basin's FIELDS are the bits of one long. */
  private static final int[] STEP = {-8, 1, 8, -1};

  private final Lines lines;
  private final Chart chart;
  private final Chart trial;
  private final Log log;
  private final Chart[] shelves;
  private final byte[] shown;
  private int shownCount;
  private int status;
  private int whyStep;
  private int whyReason;
  private int whyBarge;
  /** Made by the first call that searches: most objects never need its long rows. */
  private Search search;
  /** Null till a plan has been found. */
  private Plan plan;

  public BargeBasin() {
    lines = new Lines();
    chart = new Chart();
    trial = new Chart();
    log = new Log();
    shelves = new Chart[SHELVES];
    shown = new byte[SIDE];
    whyStep = NONE;
    whyReason = NONE;
    whyBarge = NONE;
  }

  public int status() {
    return status;
  }

  // ---- the basin and its lines

  public boolean basin(int width, int height) {
    if (width < LEAST_SIDE || width > SIDE || height < LEAST_SIDE || height > SIDE) {
      return deny(NO_SUCH);
    }
    lines.tearAll();
    chart.empty(width, height);
    return changed();
  }

  public boolean line(int y, int sort, int many) {
    if (hasNoBasin()) {
      return deny(NO_BASIN);
    }
    if (isNoLine(y) || sort < 0 || sort > 2 || many > SIDE) {
      return deny(NO_SUCH);
    }
    if (many < 0) {
      return deny(BELOW_ZERO);
    }
    for (int x = many; x < chart.width; x++) {
      if (chart.isTaken(x, y)) {
        return deny(IN_THE_WAY);
      }
    }
    lines.lay(y, sort, many);
    return linesChanged(y);
  }

  public boolean set(int y, int x, int v) {
    int fault = faultOfNumber(y, x);
    if (fault != FINE) {
      return deny(fault);
    }
    int cut = lines.cut(y, v);
    if (cut != 0 && chart.isTaken(x, y)) {
      return deny(IN_THE_WAY);
    }
    lines.write(y, x, cut);
    return linesChanged(y);
  }

  public int get(int y, int x) {
    int fault = faultOfNumber(y, x);
    return fault != FINE ? refuse(fault) : answer(lines.number(y, x));
  }

  public boolean carry(int y, int i, int z, int j, int many) {
    int fault = faultOfCarry(y, i, z, j, many);
    if (fault != FINE) {
      return deny(fault);
    }
    for (int k = 0; k < many; k++) {
      if (lines.number(y, i + k) != 0 && chart.isTaken(j + k, z)) {
        return deny(IN_THE_WAY);
      }
    }
    lines.copy(y, i, z, j, many);
    return linesChanged(z);
  }

  public boolean tear(int y) {
    int fault = faultOfLine(y);
    if (fault != FINE) {
      return deny(fault);
    }
    lines.tearOff(y);
    return linesChanged(y);
  }

  // ---- barges

  public int barge(int kind, int x, int y, int length, boolean across) {
    if (hasNoBasin()) {
      return refuse(NO_BASIN);
    }
    if (!isLengthOf(kind, length) || isNoField(x, y)) {
      return refuse(NO_SUCH);
    }
    boolean down = across && isBound(kind);
    if (!chart.fits(kind, x, y, length, down)) {
      return refuse(IN_THE_WAY);
    }
    if (chart.barges >= MOST_BARGES) {
      return refuse(TOO_MANY);
    }
    chart.add(kind, SIDE * y + x, length, down);
    log.forget();
    return answer(chart.barges - 1);
  }

  public boolean gate(int barge, int x, int y) {
    int fault = faultOfBarge(barge);
    if (fault != FINE) {
      return deny(fault);
    }
    if (isNoField(x, y)) {
      return deny(NO_SUCH);
    }
    if (chart.kind[barge] != KIND_RED) {
      return deny(OTHER_KIND);
    }
    if (!chart.isOnLine(barge, x, y)) {
      return deny(IN_THE_WAY);
    }
    chart.gate[barge] = SIDE * y + x;
    return changed();
  }

  public boolean lift(int barge) {
    int fault = faultOfBarge(barge);
    if (fault != FINE) {
      return deny(fault);
    }
    chart.drop(barge);
    return changed();
  }

  public int lies(int barge, int what) {
    int fault = faultOfBarge(barge);
    if (fault != FINE) {
      return refuse(fault);
    }
    if (what < 0 || what > 6) {
      return refuse(NO_SUCH);
    }
    if (what >= 5 && chart.kind[barge] != KIND_RED) {
      return refuse(OTHER_KIND);
    }
    return answer(chart.detail(barge, what));
  }

  public int field(int x, int y) {
    if (hasNoBasin()) {
      return refuse(NO_BASIN);
    }
    if (isNoField(x, y)) {
      return refuse(NO_SUCH);
    }
    return answer(chart.signAt(x, y));
  }

  public int count(int what) {
    if (hasNoBasin()) {
      return refuse(NO_BASIN);
    }
    int walls = Long.bitCount(chart.walls);
    switch (what) {
      case 0: return answer(chart.width);
      case 1: return answer(chart.height);
      case 2: return answer(chart.barges);
      case 3: return answer(walls);
      case 4: return answer(chart.width * chart.height - walls - Long.bitCount(chart.taken));
      case 5: return answer(chart.isFreed() ? 1 : 0);
      case 6: return answer(log.done);
      case 7: return answer(log.undone);
      default: return refuse(NO_SUCH);
    }
  }

  // ---- sliding

  public int room(int barge, int direction) {
    int fault = faultOfBarge(barge);
    if (fault != FINE) {
      return refuse(fault);
    }
    if (direction < 0 || direction >= DIRECTIONS) {
      return refuse(NO_SUCH);
    }
    return answer(chart.stepsFrom(barge, direction, false));
  }

  public boolean slide(int barge, int direction, int steps) {
    int fault = faultOfBarge(barge);
    if (fault != FINE) {
      return deny(fault);
    }
    if (direction < 0 || direction >= DIRECTIONS || steps < 1 || steps > MOST_STEPS) {
      return deny(NO_SUCH);
    }
    if (!slides(barge, direction, steps)) {
      tellWhy(barge, direction);
      return deny(CANNOT_SLIDE);
    }
    return grant();
  }

  public int why(int what) {
    switch (what) {
      case 0: return whyStep;
      case 1: return whyReason;
      case 2: return whyBarge;
      default: return NONE;
    }
  }

  public boolean undo() {
    if (hasNoBasin()) {
      return deny(NO_BASIN);
    }
    if (log.done == 0) {
      return deny(NOTHING_THERE);
    }
    int move = log.back();
    chart.shift(bargeOf(move), directionOf(move), -stepsOf(move));
    return grant();
  }

  public boolean redo() {
    if (hasNoBasin()) {
      return deny(NO_BASIN);
    }
    if (log.undone == 0) {
      return deny(NOTHING_THERE);
    }
    int move = log.forth();
    chart.shift(bargeOf(move), directionOf(move), stepsOf(move));
    return grant();
  }

  // ---- plans

  public int fewest() {
    int fault = faultOfSearch(false, false);
    return fault != FINE ? refuse(fault) : answer(searcher().writePlan(planToKeep(), false));
  }

  public int fewestSteps() {
    int fault = faultOfSearch(true, false);
    return fault != FINE ? refuse(fault) : answer(searcher().writePlan(planToKeep(), true));
  }

  public int planned(int k, int what) {
    if (plan == null || k < 0 || k >= plan.size) {
      return NONE;
    }
    int move = plan.moves[k];
    switch (what) {
      case 0: return bargeOf(move);
      case 1: return directionOf(move);
      case 2: return stepsOf(move);
      default: return NONE;
    }
  }

  public int follow(int k, int many) {
    if (hasNoBasin()) {
      return refuse(NO_BASIN);
    }
    if (k < 0 || many < 0) {
      return refuse(NO_SUCH);
    }
    if (plan == null) {
      return refuse(NOTHING_THERE);
    }
    int moved = 0;
    for (int at = k; at < plan.size && moved < many; at++) {
      int move = plan.moves[at];
      // The plan outlives the basin that it was found for, so its barge may be gone.
      if (bargeOf(move) >= chart.barges
          || !slides(bargeOf(move), directionOf(move), stepsOf(move))) {
        break;
      }
      moved++;
    }
    return answer(moved);
  }

  public long all() {
    int fault = faultOfSearch(false, false);
    if (fault != FINE) {
      return refuse(fault);
    }
    long plans = searcher().plansWithout(NONE);
    if (plans >= Search.MOST_PLANS) {
      return refuse(SPENT);
    }
    status = FINE;
    return plans;
  }

  public int must(int barge) {
    int fault = faultOfBarge(barge);
    if (fault == FINE) {
      fault = faultOfSearch(false, false);
    }
    if (fault != FINE) {
      return refuse(fault);
    }
    return answer(searcher().plansWithout(barge) == 0 ? 1 : 0);
  }

  public int low() {
    return hasNoBasin() ? refuse(NO_BASIN) : answer(chart.countLow());
  }

  // ---- all stands

  public int reach() {
    if (hasNoBasin()) {
      return refuse(NO_BASIN);
    }
    Search stands = searcher();
    return stands.explore(chart) ? answer(stands.found) : refuse(SPENT);
  }

  public int far() {
    int fault = faultOfSearch(false, true);
    return fault != FINE ? refuse(fault) : answer(searcher().farthest());
  }

  public boolean go() {
    int fault = faultOfSearch(false, true);
    if (fault != FINE) {
      return deny(fault);
    }
    Search stands = searcher();
    stands.layOut(stands.hardest(), chart);
    return changed();
  }

  // ---- making, trimming, turning, comparing

  public int make(int seed, int barges) {
    if (hasNoBasin()) {
      return refuse(NO_BASIN);
    }
    if (seed < 0 || barges < 0 || barges > MOST_BARGES) {
      return refuse(NO_SUCH);
    }
    chart.dropAll();
    Draw draw = new Draw(seed);
    for (int b = 0; b < barges; b++) {
      boolean came = false;
      for (int tries = 0; tries < TRIES && !came; tries++) {
        came = draw.addsTo(chart);
      }
    }
    log.forget();
    return answer(chart.barges);
  }

  public int trim() {
    int fault = faultOfSearch(false, true);
    if (fault != FINE) {
      return refuse(fault);
    }
    int least = searcher().farthest();
    int barges = chart.barges;
    int walls = Long.bitCount(chart.walls);
    for (int b = barges - 1; b >= 0; b--) {
      trial.copyFrom(chart);
      trial.drop(b);
      if (chart.kind[b] != KIND_RED && staysAsHard(least)) {
        chart.drop(b);
      }
    }
    for (int at = 0; at < SIDE * SIDE; at++) {
      trial.copyFrom(chart);
      trial.walls &= ~(1L << at);
      if (trial.walls != chart.walls && staysAsHard(least)) {
        chart.walls = trial.walls;
      }
    }
    int wallsGone = walls - Long.bitCount(chart.walls);
    if (wallsGone > 0) {
      lines.showWalls(chart);
    }
    log.forget();
    return answer(barges - chart.barges + wallsGone);
  }

  public boolean turn(boolean over) {
    if (hasNoBasin()) {
      return deny(NO_BASIN);
    }
    if (over) {
      chart.mirror();
    } else {
      chart.quarter();
    }
    lines.showWalls(chart);
    return changed();
  }

  public boolean keep(int shelf) {
    if (hasNoBasin()) {
      return deny(NO_BASIN);
    }
    if (shelf < 0 || shelf >= SHELVES) {
      return deny(NO_SUCH);
    }
    if (shelves[shelf] == null) {
      shelves[shelf] = new Chart();
    }
    shelves[shelf].copyFrom(chart);
    return grant();
  }

  public int same(int shelf) {
    if (hasNoBasin()) {
      return refuse(NO_BASIN);
    }
    if (shelf < 0 || shelf >= SHELVES) {
      return refuse(NO_SUCH);
    }
    Chart kept = shelves[shelf];
    if (kept == null) {
      return refuse(NOTHING_THERE);
    }
    if (kept.isSame(chart)) {
      return answer(1);
    }
    trial.copyFrom(kept);
    return answer(trial.isSameTurned(chart) ? 2 : 0);
  }

  // ---- showing

  public int show(int y) {
    if (hasNoBasin()) {
      return refuse(NO_BASIN);
    }
    if (isNoLine(y)) {
      return refuse(NO_SUCH);
    }
    for (int x = 0; x < chart.width; x++) {
      shown[x] = (byte) chart.letterAt(x, y);
    }
    shownCount = chart.width;
    return answer(shownCount);
  }

  public int out(int k) throws NoSuchElementException {
    if (k < 0 || k >= shownCount) {
      throw new NoSuchElementException();
    }
    return shown[k];
  }

  // ---- answers and their status

  private int answer(int value) {
    status = FINE;
    return value;
  }

  private int refuse(int fault) {
    status = fault;
    return NONE;
  }

  private boolean grant() {
    status = FINE;
    return true;
  }

  private boolean deny(int fault) {
    status = fault;
    return false;
  }

  /** The basin is another one now, so the moves before can't be undone or done again. */
  private boolean changed() {
    log.forget();
    return grant();
  }

  private boolean linesChanged(int y) {
    chart.wallRow(y, lines.wallBits(y, chart.width));
    return changed();
  }

  // ---- faults

  private boolean hasNoBasin() {
    return chart.width == 0;
  }

  private boolean isNoLine(int y) {
    return y < 0 || y >= chart.height;
  }

  private boolean isNoField(int x, int y) {
    return x < 0 || x >= chart.width || isNoLine(y);
  }

  private int faultOfLine(int y) {
    if (hasNoBasin()) {
      return NO_BASIN;
    }
    if (isNoLine(y)) {
      return NO_SUCH;
    }
    return lines.isMissing(y) ? LINE_MISSING : FINE;
  }

  private int faultOfNumber(int y, int x) {
    int fault = faultOfLine(y);
    if (fault != FINE) {
      return fault;
    }
    return x < 0 || x >= lines.size[y] ? PAST_END : FINE;
  }

  private int faultOfCarry(int y, int i, int z, int j, int many) {
    if (hasNoBasin()) {
      return NO_BASIN;
    }
    if (isNoLine(y) || isNoLine(z)) {
      return NO_SUCH;
    }
    if (lines.isMissing(y) || lines.isMissing(z)) {
      return LINE_MISSING;
    }
    if (lines.sort[y] != lines.sort[z]) {
      return OTHER_KIND;
    }
    if (many < 0) {
      return BELOW_ZERO;
    }
    return lines.holds(y, i, many) && lines.holds(z, j, many) ? FINE : PAST_END;
  }

  private int faultOfBarge(int barge) {
    if (hasNoBasin()) {
      return NO_BASIN;
    }
    return barge < 0 || barge >= chart.barges ? NO_SUCH : FINE;
  }

  /**
   * Where it is FINE, the search holds how far each stand is from being freed, in moves or in single
   * steps, and the stand that is can be freed, or, of all that can be come to, one can.
   */
  private int faultOfSearch(boolean single, boolean ofAll) {
    if (hasNoBasin()) {
      return NO_BASIN;
    }
    Search stands = searcher();
    if (!stands.explore(chart)) {
      return SPENT;
    }
    stands.measure(single);
    int far = ofAll ? stands.farthest() : stands.farOf(0);
    return far < 0 ? NOTHING_THERE : FINE;
  }

  private static boolean isBound(int kind) {
    return kind == KIND_BARGE || kind == KIND_RED;
  }

  private static boolean isLengthOf(int kind, int length) {
    switch (kind) {
      case KIND_BARGE:
      case KIND_RED: return length >= 2 && length <= 4;
      case KIND_TUG:
      case KIND_MOORED: return length == 1;
      case KIND_RAFT: return length == 2;
      default: return false;
    }
  }

  // ---- moves

  private static int moveOf(int barge, int direction, int steps) {
    return (barge << 5) | (direction << 3) | steps;
  }

  private static int bargeOf(int move) {
    return move >> 5;
  }

  private static int directionOf(int move) {
    return (move >> 3) & 3;
  }

  private static int stepsOf(int move) {
    return move & 7;
  }

  private boolean slides(int barge, int direction, int steps) {
    if (chart.stepsFrom(barge, direction, false) < steps) {
      return false;
    }
    chart.shift(barge, direction, steps);
    log.note(moveOf(barge, direction, steps));
    return true;
  }

  private void tellWhy(int barge, int direction) {
    int before = chart.stepsFrom(barge, direction, false);
    int place = chart.place[barge] + before * STEP[direction];
    whyStep = before + 1;
    whyReason = chart.hindrance(barge, place, direction, false);
    whyBarge = chart.hinderer(barge, place, direction, whyReason);
  }

  // ---- searches

  private Search searcher() {
    if (search == null) {
      search = new Search();
    }
    return search;
  }

  private Plan planToKeep() {
    if (plan == null) {
      plan = new Plan();
    }
    return plan;
  }

  /** Of the trial basin; one that is spent, or that can't be freed, is not. */
  private boolean staysAsHard(int least) {
    Search stands = searcher();
    if (!stands.explore(trial)) {
      return false;
    }
    stands.measure(false);
    return stands.farthest() >= least;
  }

  /** The rows that tell the walls. */
  private static final class Lines {
    private static final int NO_SORT = -1;

    final int[] sort = new int[SIDE];
    final int[] size = new int[SIDE];
    final int[] numbers = new int[SIDE * SIDE];
    final int[] carried = new int[SIDE];

    void tearAll() {
      for (int y = 0; y < SIDE; y++) {
        tearOff(y);
      }
    }

    void tearOff(int y) {
      sort[y] = NO_SORT;
    }

    boolean isMissing(int y) {
      return sort[y] == NO_SORT;
    }

    void lay(int y, int newSort, int many) {
      sort[y] = newSort;
      size[y] = many;
      for (int x = 0; x < SIDE; x++) {
        write(y, x, 0);
      }
    }

    int number(int y, int x) {
      return numbers[SIDE * y + x];
    }

    void write(int y, int x, int v) {
      numbers[SIDE * y + x] = v;
    }

    int cut(int y, int v) {
      switch (sort[y]) {
        case 0: return (byte) v;
        case 1: return (char) v;
        default: return (short) v;
      }
    }

    boolean holds(int y, int from, int many) {
      return from >= 0 && many <= size[y] && from <= size[y] - many;
    }

    /** By way of a row of its own: the two places may overlap in one line. */
    void copy(int y, int i, int z, int j, int many) {
      for (int k = 0; k < many; k++) {
        carried[k] = number(y, i + k);
      }
      for (int k = 0; k < many; k++) {
        write(z, j + k, carried[k]);
      }
    }

    int wallBits(int y, int width) {
      if (isMissing(y)) {
        return 0;
      }
      int bits = 0;
      for (int x = 0; x < width; x++) {
        if (x >= size[y] || number(y, x) != 0) {
          bits |= 1 << x;
        }
      }
      return bits;
    }

    void showWalls(Chart chart) {
      tearAll();
      for (int y = 0; y < chart.height; y++) {
        lay(y, 0, chart.width);
        for (int x = 0; x < chart.width; x++) {
          write(y, x, chart.isWall(x, y) ? 1 : 0);
        }
      }
    }
  }

  /** A basin with its walls, and its barges as they lie. */
  private static final class Chart {
    int width;
    int height;
    int barges;
    long walls;
    long taken;
    final int[] kind = new int[MOST_BARGES];
    final int[] place = new int[MOST_BARGES];
    final int[] length = new int[MOST_BARGES];
    final int[] gate = new int[MOST_BARGES];
    final boolean[] across = new boolean[MOST_BARGES];
    /** How many fields a barge is wide and high, and which they would be from (0, 0) on. */
    final int[] wide = new int[MOST_BARGES];
    final int[] high = new int[MOST_BARGES];
    final long[] shape = new long[MOST_BARGES];

    void empty(int newWidth, int newHeight) {
      width = newWidth;
      height = newHeight;
      walls = 0;
      dropAll();
    }

    void dropAll() {
      barges = 0;
      taken = 0;
    }

    void copyFrom(Chart other) {
      width = other.width;
      height = other.height;
      barges = other.barges;
      walls = other.walls;
      taken = other.taken;
      for (int b = 0; b < barges; b++) {
        copyBarge(other, b, b);
      }
    }

    void copyBarge(Chart other, int from, int to) {
      kind[to] = other.kind[from];
      place[to] = other.place[from];
      length[to] = other.length[from];
      gate[to] = other.gate[from];
      across[to] = other.across[from];
      wide[to] = other.wide[from];
      high[to] = other.high[from];
      shape[to] = other.shape[from];
    }

    // ---- fields

    void wallRow(int y, int bits) {
      walls = (walls & ~(ROW << (SIDE * y))) | ((long) bits << (SIDE * y));
    }

    boolean isWall(int x, int y) {
      return ((walls >>> (SIDE * y + x)) & 1L) != 0;
    }

    /** False right of the basin, too, where a line may still have numbers. */
    boolean isTaken(int x, int y) {
      return x < width && ((taken >>> (SIDE * y + x)) & 1L) != 0;
    }

    int signAt(int x, int y) {
      if (isWall(x, y)) {
        return WALL_SIGN;
      }
      int b = firstIn(1L << (SIDE * y + x), NONE);
      return b < 0 ? EMPTY_SIGN : b;
    }

    int letterAt(int x, int y) {
      int sign = signAt(x, y);
      if (sign < 0) {
        return sign == WALL_SIGN ? '#' : '.';
      }
      return (kind[sign] == KIND_RED ? 'A' : 'a') + sign;
    }

    /** The first barge but one that lies in one of these fields. */
    int firstIn(long fields, int but) {
      for (int b = 0; b < barges; b++) {
        if (b != but && (fieldsOf(b) & fields) != 0) {
          return b;
        }
      }
      return NONE;
    }

    // ---- one barge

    long fieldsOf(int b) {
      return shape[b] << place[b];
    }

    static int wideOf(int length, boolean across) {
      return across ? 1 : length;
    }

    static int highOf(int kind, int length, boolean across) {
      return across || kind == KIND_RAFT ? length : 1;
    }

    static long shapeOf(int wide, int high) {
      long row = (1L << wide) - 1L;
      long fields = 0;
      for (int y = 0; y < high; y++) {
        fields |= row << (SIDE * y);
      }
      return fields;
    }

    /** Whether something so wide and high would be wholly inside the basin. */
    boolean isInside(int x, int y, int w, int h) {
      return x >= 0 && x <= width - w && y >= 0 && y <= height - h;
    }

    boolean fits(int k, int x, int y, int many, boolean down) {
      int w = wideOf(many, down);
      int h = highOf(k, many, down);
      return isInside(x, y, w, h)
          && ((shapeOf(w, h) << (SIDE * y + x)) & (walls | taken)) == 0;
    }

    void add(int k, int at, int many, boolean down) {
      if (barges >= MOST_BARGES) {
        return;
      }
      kind[barges] = k;
      place[barges] = at;
      length[barges] = many;
      gate[barges] = at;
      across[barges] = down;
      form(barges);
      taken |= fieldsOf(barges);
      barges++;
    }

    void form(int b) {
      wide[b] = wideOf(length[b], across[b]);
      high[b] = highOf(kind[b], length[b], across[b]);
      shape[b] = shapeOf(wide[b], high[b]);
    }

    void drop(int b) {
      taken &= ~fieldsOf(b);
      for (int behind = b + 1; behind < barges; behind++) {
        copyBarge(this, behind, behind - 1);
      }
      barges--;
    }

    int detail(int b, int what) {
      switch (what) {
        case 0: return kind[b];
        case 1: return place[b] & 7;
        case 2: return place[b] >> 3;
        case 3: return length[b];
        case 4: return across[b] ? 1 : 0;
        case 5: return gate[b] & 7;
        default: return gate[b] >> 3;
      }
    }

    boolean isOnLine(int b, int x, int y) {
      boolean on = across[b] ? x == (place[b] & 7) : y == place[b] >> 3;
      return on && isInside(x, y, wide[b], high[b]);
    }

    // ---- steps

    void shift(int b, int direction, int steps) {
      taken &= ~fieldsOf(b);
      place[b] += steps * STEP[direction];
      taken |= fieldsOf(b);
    }

    /**
     * Why a barge can't step on from a place (0: it can). Back: whether it could have come to this
     * place by a step from the one in that direction. Only a moored one tells the two apart: it has
     * to be alone where the step begins.
     */
    int hindrance(int b, int from, int direction, boolean back) {
      boolean upOrDown = (direction & 1) == 0;
      if (isBound(kind[b]) && across[b] != upOrDown) {
        return 1;
      }
      int x = (from & 7) + STEP_X[direction];
      int y = (from >> 3) + STEP_Y[direction];
      if (!isInside(x, y, wide[b], high[b])) {
        return 2;
      }
      int to = from + STEP[direction];
      long ahead = shape[b] << to;
      if ((ahead & walls) != 0) {
        return 3;
      }
      long others = taken & ~fieldsOf(b);
      if ((ahead & others) != 0) {
        return 4;
      }
      return kind[b] == KIND_MOORED && (beside(back ? to : from) & others) != 0 ? 5 : 0;
    }

    int hinderer(int b, int from, int direction, int reason) {
      if (reason == 4) {
        return firstIn(shape[b] << (from + STEP[direction]), b);
      }
      return reason == 5 ? firstIn(beside(from), b) : NONE;
    }

    static long beside(int at) {
      long field = 1L << at;
      long fields = (field << SIDE) | (field >>> SIDE);
      if ((at & 7) > 0) {
        fields |= field >>> 1;
      }
      if ((at & 7) < SIDE - 1) {
        fields |= field << 1;
      }
      return fields;
    }

    int stepsFrom(int b, int direction, boolean back) {
      int at = place[b];
      int steps = 0;
      while (steps < MOST_STEPS && hindrance(b, at, direction, back) == 0) {
        at += STEP[direction];
        steps++;
      }
      return steps;
    }

    // ---- gates

    boolean isAway(int b) {
      return kind[b] == KIND_RED && place[b] != gate[b];
    }

    boolean isFreed() {
      for (int b = 0; b < barges; b++) {
        if (isAway(b)) {
          return false;
        }
      }
      return true;
    }

    int countLow() {
      long ways = 0;
      for (int b = 0; b < barges; b++) {
        if (isAway(b)) {
          ways |= wayOf(b);
        }
      }
      int low = 0;
      for (int b = 0; b < barges; b++) {
        if ((fieldsOf(b) & ways) != 0) {
          low++;
        }
      }
      return low;
    }

    /** All fields from where a red one lies to its gate, both with it. */
    long wayOf(int b) {
      int step = across[b] ? SIDE : 1;
      int first = Math.min(place[b], gate[b]);
      int last = Math.max(place[b], gate[b]);
      long fields = 0;
      for (int at = first; at <= last; at += step) {
        fields |= shape[b] << at;
      }
      return fields;
    }

    // ---- turning and comparing

    void mirror() {
      long from = walls;
      walls = 0;
      for (int at = 0; at < SIDE * SIDE; at++) {
        if (((from >>> at) & 1L) != 0) {
          walls |= 1L << mirrored(at, 1);
        }
      }
      taken = 0;
      for (int b = 0; b < barges; b++) {
        place[b] = mirrored(place[b], wide[b]);
        gate[b] = mirrored(gate[b], wide[b]);
        taken |= fieldsOf(b);
      }
    }

    /** Where a place comes to: what was the right end is the left one then. */
    int mirrored(int at, int w) {
      int x = at & 7;
      return at - x + (width - x - w);
    }

    void quarter() {
      long from = walls;
      walls = 0;
      for (int at = 0; at < SIDE * SIDE; at++) {
        if (((from >>> at) & 1L) != 0) {
          walls |= 1L << turned(at, 1);
        }
      }
      taken = 0;
      for (int b = 0; b < barges; b++) {
        place[b] = turned(place[b], high[b]);
        gate[b] = turned(gate[b], high[b]);
        across[b] = isBound(kind[b]) && !across[b];
        form(b);
        taken |= fieldsOf(b);
      }
      int was = width;
      width = height;
      height = was;
    }

    /** Where a place comes to: what was the lower end is the left one then. */
    int turned(int at, int h) {
      int x = at & 7;
      int y = at >> 3;
      return SIDE * x + (height - y - h);
    }

    boolean isSame(Chart other) {
      if (width != other.width || height != other.height || walls != other.walls
          || taken != other.taken || barges != other.barges) {
        return false;
      }
      for (int b = 0; b < barges; b++) {
        int twin = other.firstIn(1L << place[b], NONE);
        if (twin < 0 || !isTwin(b, other, twin)) {
          return false;
        }
      }
      return true;
    }

    boolean isTwin(int b, Chart other, int twin) {
      return place[b] == other.place[twin] && kind[b] == other.kind[twin]
          && length[b] == other.length[twin] && across[b] == other.across[twin]
          && (kind[b] != KIND_RED || gate[b] == other.gate[twin]);
    }

    /** Whether it is the same after some quarters and mirrorings; it is left turned. */
    boolean isSameTurned(Chart other) {
      for (int sides = 0; sides < 2; sides++) {
        for (int quarters = 0; quarters < 4; quarters++) {
          quarter();
          if (isSame(other)) {
            return true;
          }
        }
        mirror();
      }
      return false;
    }
  }

  /** The latest moves, and those of them that were undone. */
  private static final class Log {
    private static final int MOST = 60;

    final int[] moves = new int[MOST];
    int first;
    int done;
    int undone;

    void forget() {
      done = 0;
      undone = 0;
    }

    void note(int move) {
      undone = 0;
      if (done == MOST) {
        first = (first + 1) % MOST;
        done--;
      }
      moves[(first + done) % MOST] = move;
      done++;
    }

    int back() {
      done--;
      undone++;
      return moves[(first + done) % MOST];
    }

    int forth() {
      int move = moves[(first + done) % MOST];
      done++;
      undone--;
      return move;
    }
  }

  private static final class Plan {
    final int[] moves = new int[Search.MOST];
    int size;

    void add(int move) {
      if (size < Search.MOST) {
        moves[size] = move;
        size++;
      }
    }
  }

  /** The numbers that basins are made from. */
  private static final class Draw {
    private static final int FACTOR = 1103515245;
    private static final int ADDEND = 12345;

    int seed;

    Draw(int seed) {
      this.seed = seed;
    }

    int below(int n) {
      seed = (FACTOR * seed + ADDEND) & 0x7FFFFFFF;
      return n < 1 ? 0 : (seed >> 16) % n;
    }

    /** One try: whether what was drawn fitted, and came. */
    boolean addsTo(Chart chart) {
      int sign = below(6);
      int kind = sign == 3 ? KIND_TUG : sign == 4 ? KIND_RAFT : KIND_BARGE;
      int length = kind == KIND_BARGE ? below(3) + 2 : kind == KIND_RAFT ? 2 : 1;
      boolean across = sign == 1 || sign == 2;
      int x = below(chart.width);
      int y = below(chart.height);
      if (!chart.fits(kind, x, y, length, across)) {
        return false;
      }
      chart.add(kind, SIDE * y + x, length, across);
      return true;
    }
  }

  /** All stands that moves come to from one, in the order in which they are come to. */
  private static final class Search {
    static final int MOST = 6000;
    static final long MOST_PLANS = 1L << 62;
    private static final int SLOTS = 16384;
    private static final int BITS = 6;
    private static final int HALF = 6;
    private static final long MIX_LOW = 0x9E3779B97F4A7C15L;
    private static final long MIX_HIGH = 0xC2B2AE3D27D4EB4FL;

    final Chart board = new Chart();
    /** A stand is the places of barges 0 to 5, and of 6 to 11, 6 bits each. */
    final long[] low = new long[MOST];
    final long[] high = new long[MOST];
    /** A stand's number and one more, where its hash or a slot behind it says; 0: free. */
    final int[] slots = new int[SLOTS];
    final int[] slotFor = new int[MOST];
    final int[] moves = new int[MOST_BARGES * DIRECTIONS * MOST_STEPS];
    final int[] distance = new int[MOST];
    final int[] queue = new int[MOST];
    final long[] ways = new long[MOST];
    int found;
    int queued;
    boolean spent;

    /** False if there are too many stands. */
    boolean explore(Chart from) {
      clear();
      board.copyFrom(from);
      meetStart();
      for (int at = 0; at < found && at < MOST && !spent; at++) {
        int many = listMoves(at, MOST_STEPS, false);
        for (int i = 0; i < many; i++) {
          meet(lowAfter(at, moves[i]), highAfter(at, moves[i]));
        }
      }
      return !spent;
    }

    /** Frees the slots that were taken: mostly there are far fewer than all. */
    private void clear() {
      for (int at = 0; at < found; at++) {
        slots[slotFor[at]] = 0;
      }
      found = 0;
      spent = false;
    }

    private void meetStart() {
      long startLow = 0;
      long startHigh = 0;
      for (int b = 0; b < board.barges; b++) {
        startLow += inLow(b, board.place[b]);
        startHigh += inHigh(b, board.place[b]);
      }
      meet(startLow, startHigh);
    }

    private void meet(long newLow, long newHigh) {
      int slot = slotOf(newLow, newHigh);
      if (slots[slot] != 0) {
        return;
      }
      if (found >= MOST) {
        spent = true;
        return;
      }
      low[found] = newLow;
      high[found] = newHigh;
      slotFor[found] = slot;
      found++;
      slots[slot] = found;
    }

    // ---- stands

    private static long inLow(int b, int fields) {
      return b < HALF ? (long) fields << (BITS * b) : 0L;
    }

    private static long inHigh(int b, int fields) {
      return b < HALF ? 0L : (long) fields << (BITS * (b - HALF));
    }

    private long lowAfter(int at, int move) {
      return low[at] + inLow(bargeOf(move), stepsOf(move) * STEP[directionOf(move)]);
    }

    private long highAfter(int at, int move) {
      return high[at] + inHigh(bargeOf(move), stepsOf(move) * STEP[directionOf(move)]);
    }

    /** Where a stand is, or else where it would come to; the slots are never all taken. */
    private int slotOf(long aLow, long aHigh) {
      long mixed = ((aLow * MIX_LOW) ^ aHigh) * MIX_HIGH;
      int slot = (int) (mixed >>> 50);
      for (int tries = 0; tries < SLOTS; tries++) {
        int at = slots[slot] - 1;
        if (at < 0 || (low[at] == aLow && high[at] == aHigh)) {
          return slot;
        }
        slot = (slot + 1) & (SLOTS - 1);
      }
      return slot;
    }

    /** The stand that a move leads to, or NONE. */
    private int after(int at, int move) {
      return slots[slotOf(lowAfter(at, move), highAfter(at, move))] - 1;
    }

    void layOut(int at, Chart chart) {
      if (at < 0 || at >= found) {
        return;
      }
      chart.taken = 0;
      for (int b = 0; b < chart.barges; b++) {
        long bits = b < HALF ? low[at] >>> (BITS * b) : high[at] >>> (BITS * (b - HALF));
        chart.place[b] = (int) (bits & 63L);
        chart.taken |= chart.fieldsOf(b);
      }
    }

    /** Writes down, in order, the moves from a stand, or the ways back to it: how many. */
    private int listMoves(int at, int mostSteps, boolean back) {
      layOut(at, board);
      int many = 0;
      for (int b = 0; b < board.barges; b++) {
        for (int d = 0; d < DIRECTIONS; d++) {
          int steps = Math.min(mostSteps, board.stepsFrom(b, d, back));
          for (int k = 1; k <= steps; k++) {
            moves[many] = moveOf(b, d, k);
            many++;
          }
        }
      }
      return many;
    }

    // ---- how far they are from being freed

    /** For each stand the fewest moves, or single steps, to one that is freed. */
    void measure(boolean single) {
      queued = 0;
      for (int at = 0; at < found; at++) {
        layOut(at, board);
        distance[at] = NONE;
        if (board.isFreed()) {
          enqueue(at, 0);
        }
      }
      for (int i = 0; i < queued && i < MOST; i++) {
        int at = queue[i];
        int many = listMoves(at, single ? 1 : MOST_STEPS, true);
        for (int k = 0; k < many; k++) {
          // Ways back may come from stands that can't be come to.
          int from = after(at, moves[k]);
          if (from >= 0 && distance[from] < 0) {
            enqueue(from, distance[at] + 1);
          }
        }
      }
    }

    private void enqueue(int at, int far) {
      if (queued < MOST) {
        distance[at] = far;
        queue[queued] = at;
        queued++;
      }
    }

    int farOf(int at) {
      return at < 0 || at >= found ? NONE : distance[at];
    }

    /** The first of the stands with the greatest distance, or NONE. */
    int hardest() {
      int best = NONE;
      for (int at = 0; at < found; at++) {
        if (distance[at] > farOf(best)) {
          best = at;
        }
      }
      return best;
    }

    /** The greatest distance, or NONE. */
    int farthest() {
      return farOf(hardest());
    }

    // ---- plans

    /** The first of the plans from stand 0 on, as it was measured: how many moves. */
    int writePlan(Plan plan, boolean single) {
      plan.size = 0;
      int at = 0;
      for (int left = farOf(0) - 1; left >= 0 && at >= 0; left--) {
        int move = firstTo(at, left, single ? 1 : MOST_STEPS);
        plan.add(move);
        at = after(at, move);
      }
      return plan.size;
    }

    /** The first move from a stand to one that is so far; 0, which is no move, if there is none. */
    private int firstTo(int at, int far, int mostSteps) {
      int many = listMoves(at, mostSteps, false);
      for (int i = 0; i < many; i++) {
        if (farOf(after(at, moves[i])) == far) {
          return moves[i];
        }
      }
      return 0;
    }

    /** How many fewest plans have no move of this barge, at most MOST_PLANS. */
    long plansWithout(int barge) {
      for (int at = 0; at < found; at++) {
        ways[at] = 0;
      }
      queued = 0;
      addWays(0, 1);
      long plans = 0;
      for (int i = 0; i < queued && i < MOST; i++) {
        int at = queue[i];
        if (distance[at] == 0) {
          plans = capped(plans, ways[at]);
        } else {
          handOn(at, barge);
        }
      }
      return plans;
    }

    /** The ways to a stand lead on to each nearer one; these come later in the queue. */
    private void handOn(int at, int but) {
      int many = listMoves(at, MOST_STEPS, false);
      for (int i = 0; i < many; i++) {
        int to = after(at, moves[i]);
        if (to >= 0 && bargeOf(moves[i]) != but && distance[to] == distance[at] - 1) {
          addWays(to, ways[at]);
        }
      }
    }

    private void addWays(int to, long more) {
      if (ways[to] == 0 && queued < MOST) {
        queue[queued] = to;
        queued++;
      }
      ways[to] = capped(ways[to], more);
    }

    private static long capped(long a, long b) {
      return a >= MOST_PLANS - b ? MOST_PLANS : a + b;
    }
  }
}
