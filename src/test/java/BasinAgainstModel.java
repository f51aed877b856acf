import java.math.BigInteger;
import java.util.ArrayDeque;
import java.util.ArrayList;
import java.util.Arrays;
import java.util.HashMap;
import java.util.HashSet;
import java.util.List;
import java.util.Map;
import java.util.NoSuchElementException;
import java.util.Random;
import java.util.Set;

/**
 * Long runs of drawn calls, each answer held against a second, slow and plain program of the same
 * document: sets of fields in place of bits, all edges written down in place of steps taken back.
 */
public final class BasinAgainstModel {
  private static final int[] DX = {0, 1, 0, -1};
  private static final int[] DY = {-1, 0, 1, 0};

  /** A barge; not changed once made. */
  private record Ship(int kind, int x, int y, int len, boolean across, int gx, int gy) {
    Ship at(int nx, int ny) {
      return new Ship(kind, nx, ny, len, across, gx, gy);
    }

    int wide() {
      return kind == 3 ? 2 : kind == 2 || kind == 4 ? 1 : across ? 1 : len;
    }

    int high() {
      return kind == 3 ? 2 : kind == 2 || kind == 4 ? 1 : across ? len : 1;
    }

    Set<Integer> cells() {
      Set<Integer> all = new HashSet<>();
      for (int i = 0; i < wide(); i++) {
        for (int j = 0; j < high(); j++) {
          all.add(cell(x + i, y + j));
        }
      }
      return all;
    }

    boolean goes(int d) {
      return kind >= 2 && kind <= 4 || across == (d == 0 || d == 2);
    }
  }

  private static int cell(int x, int y) {
    return 1000 * (y + 100) + x + 100;
  }

  /** Width, height, walls and ships: all that two basins can differ in. */
  private record Water(int w, int h, Set<Integer> walls, List<Ship> ships) {
    boolean in(int c) {
      return hasField(c % 1000 - 100, c / 1000 - 100);
    }

    boolean hasField(int x, int y) {
      return x >= 0 && x < w && y >= 0 && y < h;
    }

    int shipIn(int c, int but) {
      for (int b = 0; b < ships.size(); b++) {
        if (b != but && ships.get(b).cells().contains(c)) {
          return b;
        }
      }
      return -1;
    }

    /** Reason and hinderer of the next step of ship b as it lies; reason 0: it can be. */
    int[] step(int b, int d) {
      Ship s = ships.get(b);
      if (!s.goes(d)) {
        return new int[] {1, -1};
      }
      Ship t = s.at(s.x + DX[d], s.y + DY[d]);
      int least = 99;
      for (int c : t.cells()) {
        if (!in(c)) {
          return new int[] {2, -1};
        }
      }
      for (int c : t.cells()) {
        if (walls.contains(c)) {
          return new int[] {3, -1};
        }
        int o = shipIn(c, b);
        if (o >= 0) {
          least = Math.min(least, o);
        }
      }
      if (least < 99) {
        return new int[] {4, least};
      }
      if (s.kind == 4) {
        for (int e = 0; e < 4; e++) {
          int o = shipIn(cell(s.x + DX[e], s.y + DY[e]), b);
          if (o >= 0) {
            least = Math.min(least, o);
          }
        }
      }
      return least < 99 ? new int[] {5, least} : new int[] {0, -1};
    }

    Water with(int b, Ship s) {
      List<Ship> next = new ArrayList<>(ships);
      next.set(b, s);
      return new Water(w, h, walls, next);
    }

    Water stepped(int b, int d) {
      Ship s = ships.get(b);
      return with(b, s.at(s.x + DX[d], s.y + DY[d]));
    }

    int room(int b, int d) {
      Water at = this;
      for (int k = 0; k < 9; k++) {
        if (at.step(b, d)[0] != 0) {
          return k;
        }
        at = at.stepped(b, d);
      }
      return -99;
    }

    boolean freed() {
      for (Ship s : ships) {
        if (s.kind == 5 && (s.x != s.gx || s.y != s.gy)) {
          return false;
        }
      }
      return true;
    }

    Water without(int b) {
      List<Ship> next = new ArrayList<>(ships);
      next.remove(b);
      return new Water(w, h, walls, next);
    }

    Water withoutWall(int c) {
      Set<Integer> next = new HashSet<>(walls);
      next.remove(c);
      return new Water(w, h, next, ships);
    }

    Water mapped(boolean over) {
      Set<Integer> newWalls = new HashSet<>();
      for (int c : walls) {
        int[] q = point(c % 1000 - 100, c / 1000 - 100, over);
        newWalls.add(cell(q[0], q[1]));
      }
      List<Ship> newShips = new ArrayList<>();
      for (Ship s : ships) {
        int[] place = corner(s, over);
        int[] gate = corner(s.at(s.gx, s.gy), over);
        boolean across = (s.kind == 1 || s.kind == 5) && s.across == over;
        newShips.add(new Ship(s.kind, place[0], place[1], s.len, across, gate[0], gate[1]));
      }
      return over ? new Water(w, h, newWalls, newShips) : new Water(h, w, newWalls, newShips);
    }

    int[] point(int x, int y, boolean over) {
      return over ? new int[] {w - 1 - x, y} : new int[] {h - 1 - y, x};
    }

    int[] corner(Ship s, boolean over) {
      int bx = 99;
      int by = 99;
      for (int c : s.cells()) {
        int[] q = point(c % 1000 - 100, c / 1000 - 100, over);
        bx = Math.min(bx, q[0]);
        by = Math.min(by, q[1]);
      }
      return new int[] {bx, by};
    }

    boolean same(Water o) {
      if (w != o.w || h != o.h || !walls.equals(o.walls)) {
        return false;
      }
      Set<Ship> mine = new HashSet<>();
      Set<Ship> others = new HashSet<>();
      for (Ship s : ships) {
        mine.add(s.kind == 5 ? s : new Ship(s.kind, s.x, s.y, s.len, s.across, 0, 0));
      }
      for (Ship s : o.ships) {
        others.add(s.kind == 5 ? s : new Ship(s.kind, s.x, s.y, s.len, s.across, 0, 0));
      }
      return mine.equals(others);
    }
  }

  private record Edge(int to, int b, int d, int k) {}

  /** Every stand and every move among them. */
  private static final class Graph {
    final List<Water> stands = new ArrayList<>();
    final List<List<Edge>> edges = new ArrayList<>();
    final Map<List<Ship>, Integer> index = new HashMap<>();
    boolean spent;

    Graph(Water start) {
      stands.add(start);
      index.put(start.ships, 0);
      for (int i = 0; i < stands.size() && !spent; i++) {
        List<Edge> from = new ArrayList<>();
        edges.add(from);
        for (int b = 0; b < start.ships.size(); b++) {
          for (int d = 0; d < 4; d++) {
            Water at = stands.get(i);
            for (int k = 1; at.step(b, d)[0] == 0; k++) {
              at = at.stepped(b, d);
              Integer to = index.get(at.ships);
              if (to == null) {
                to = stands.size();
                stands.add(at);
                index.put(at.ships, to);
              }
              from.add(new Edge(to, b, d, k));
            }
          }
        }
        spent = stands.size() > 6000;
      }
    }

    int[] far(boolean single) {
      List<List<Integer>> back = new ArrayList<>();
      for (int i = 0; i < stands.size(); i++) {
        back.add(new ArrayList<>());
      }
      int[] far = new int[stands.size()];
      Arrays.fill(far, -1);
      ArrayDeque<Integer> queue = new ArrayDeque<>();
      for (int i = 0; i < stands.size(); i++) {
        for (Edge e : edges.get(i)) {
          if (!single || e.k == 1) {
            back.get(e.to).add(i);
          }
        }
        if (stands.get(i).freed()) {
          far[i] = 0;
          queue.add(i);
        }
      }
      while (!queue.isEmpty()) {
        int at = queue.poll();
        for (int from : back.get(at)) {
          if (far[from] < 0) {
            far[from] = far[at] + 1;
            queue.add(from);
          }
        }
      }
      return far;
    }

    static int hardest(int[] far) {
      int best = -1;
      for (int i = 0; i < far.length; i++) {
        if (far[i] >= 0 && (best < 0 || far[i] > far[best])) {
          best = i;
        }
      }
      return best;
    }

    BigInteger plans(int at, int but, int[] far, Map<Integer, BigInteger> known) {
      if (far[at] == 0) {
        return BigInteger.ONE;
      }
      BigInteger sum = known.get(at);
      if (sum == null) {
        sum = BigInteger.ZERO;
        for (Edge e : edges.get(at)) {
          if (far[e.to] == far[at] - 1 && e.b != but) {
            sum = sum.add(plans(e.to, but, far, known));
          }
        }
        known.put(at, sum);
      }
      return sum;
    }
  }

  private record Done(int b, int d, int k) {}

  /** The document's calls over Water and Graph. */
  private static final class Model {
    int status;
    Water water;
    int[][] rows = new int[8][];
    int[] sorts = new int[8];
    Water[] shelf = new Water[4];
    List<Done> done = new ArrayList<>();
    List<Done> undone = new ArrayList<>();
    List<Done> plan;
    int[] why = {-1, -1, -1};
    String out = "";
    Graph graph;
    Water graphOf;

    Graph graph() {
      if (graph == null || !(water.equals(graphOf) && water.ships.equals(graphOf.ships))) {
        graph = new Graph(water);
        graphOf = water;
      }
      return graph;
    }

    int no(int s) {
      status = s;
      return -1;
    }

    int yes(int v) {
      status = 0;
      return v;
    }

    boolean bad(int s) {
      status = s;
      return false;
    }

    boolean good(boolean forget) {
      status = 0;
      if (forget) {
        done.clear();
        undone.clear();
      }
      return true;
    }

    boolean ship(int b) {
      return b >= 0 && b < water.ships.size();
    }

    boolean row(int y) {
      return y >= 0 && y < water.h;
    }

    Set<Integer> walls(int w, int h, int[][] of) {
      Set<Integer> all = new HashSet<>();
      for (int y = 0; y < h; y++) {
        for (int x = 0; x < w; x++) {
          if (of[y] != null && (x >= of[y].length || of[y][x] != 0)) {
            all.add(cell(x, y));
          }
        }
      }
      return all;
    }

    boolean change(int y, int[] to, int sort) {
      int[][] next = rows.clone();
      next[y] = to;
      Set<Integer> walls = walls(water.w, water.h, next);
      for (Ship s : water.ships) {
        for (int c : s.cells()) {
          if (walls.contains(c)) {
            return bad(7);
          }
        }
      }
      rows = next;
      sorts[y] = sort;
      water = new Water(water.w, water.h, walls, water.ships);
      return good(true);
    }

    boolean basin(int w, int h) {
      if (w < 3 || w > 8 || h < 3 || h > 8) {
        return bad(2);
      }
      rows = new int[8][];
      water = new Water(w, h, new HashSet<>(), new ArrayList<>());
      return good(true);
    }

    boolean line(int y, int sort, int many) {
      if (water == null) {
        return bad(1);
      }
      if (!row(y) || sort < 0 || sort > 2 || many > 8) {
        return bad(2);
      }
      return many < 0 ? bad(6) : change(y, new int[many], sort);
    }

    boolean set(int y, int x, int v) {
      int fault = numberFault(y, x);
      if (fault != 0) {
        return bad(fault);
      }
      int[] next = rows[y].clone();
      next[x] = sorts[y] == 0 ? (byte) v : sorts[y] == 1 ? (char) v : (short) v;
      return change(y, next, sorts[y]);
    }

    int numberFault(int y, int x) {
      return water == null ? 1 : !row(y) ? 2 : rows[y] == null ? 3
          : x < 0 || x >= rows[y].length ? 4 : 0;
    }

    int get(int y, int x) {
      int fault = numberFault(y, x);
      return fault != 0 ? no(fault) : yes(rows[y][x]);
    }

    boolean carry(int y, int i, int z, int j, int many) {
      if (water == null) {
        return bad(1);
      }
      if (!row(y) || !row(z)) {
        return bad(2);
      }
      if (rows[y] == null || rows[z] == null) {
        return bad(3);
      }
      if (sorts[y] != sorts[z]) {
        return bad(5);
      }
      if (many < 0) {
        return bad(6);
      }
      int[] next = rows[z].clone();
      try {
        System.arraycopy(rows[y], i, next, j, many);
      } catch (IndexOutOfBoundsException e) {
        return bad(4);
      }
      return change(z, next, sorts[z]);
    }

    boolean tear(int y) {
      if (water == null || !row(y) || rows[y] == null) {
        return bad(water == null ? 1 : !row(y) ? 2 : 3);
      }
      return change(y, null, 0);
    }

    boolean fits(Ship s) {
      if (s.x < 0 || s.y < 0 || s.x > 8 || s.y > 8) {
        return false;
      }
      for (int c : s.cells()) {
        if (!water.in(c) || water.walls.contains(c) || water.shipIn(c, -1) >= 0) {
          return false;
        }
      }
      return true;
    }

    void add(Ship s) {
      List<Ship> next = new ArrayList<>(water.ships);
      next.add(s);
      water = new Water(water.w, water.h, water.walls, next);
    }

    int barge(int kind, int x, int y, int len, boolean across) {
      if (water == null) {
        return no(1);
      }
      boolean rightLength = kind == 1 || kind == 5 ? len >= 2 && len <= 4
          : kind == 2 || kind == 4 ? len == 1 : kind == 3 && len == 2;
      if (!rightLength || !water.hasField(x, y)) {
        return no(2);
      }
      Ship s = new Ship(kind, x, y, len, across && (kind == 1 || kind == 5), x, y);
      if (!fits(s)) {
        return no(7);
      }
      if (water.ships.size() == 12) {
        return no(8);
      }
      add(s);
      good(true);
      return water.ships.size() - 1;
    }

    boolean gate(int b, int x, int y) {
      if (water == null || !ship(b) || !water.hasField(x, y)) {
        return bad(water == null ? 1 : 2);
      }
      Ship s = water.ships.get(b);
      if (s.kind != 5) {
        return bad(5);
      }
      if (s.across ? x != s.x : y != s.y) {
        return bad(7);
      }
      for (int c : s.at(x, y).cells()) {
        if (!water.in(c)) {
          return bad(7);
        }
      }
      water = water.with(b, new Ship(5, s.x, s.y, s.len, s.across, x, y));
      return good(true);
    }

    boolean lift(int b) {
      if (water == null || !ship(b)) {
        return bad(water == null ? 1 : 2);
      }
      water = water.without(b);
      return good(true);
    }

    int lies(int b, int what) {
      if (water == null) {
        return no(1);
      }
      if (!ship(b) || what < 0 || what > 6) {
        return no(2);
      }
      Ship s = water.ships.get(b);
      if (what > 4 && s.kind != 5) {
        return no(5);
      }
      return yes(new int[] {s.kind, s.x, s.y, s.len, s.across ? 1 : 0, s.gx, s.gy}[what]);
    }

    int sign(int x, int y) {
      int c = cell(x, y);
      int b = water.shipIn(c, -1);
      return water.walls.contains(c) ? -2 : b < 0 ? -3 : b;
    }

    int field(int x, int y) {
      if (water == null) {
        return no(1);
      }
      return water.hasField(x, y) ? yes(sign(x, y)) : no(2);
    }

    int count(int what) {
      if (water == null) {
        return no(1);
      }
      if (what < 0 || what > 7) {
        return no(2);
      }
      int walls = 0;
      int empty = 0;
      for (int y = 0; y < water.h; y++) {
        for (int x = 0; x < water.w; x++) {
          walls += sign(x, y) == -2 ? 1 : 0;
          empty += sign(x, y) == -3 ? 1 : 0;
        }
      }
      return yes(new int[] {water.w, water.h, water.ships.size(), walls, empty,
          water.freed() ? 1 : 0, done.size(), undone.size()}[what]);
    }

    int room(int b, int d) {
      if (water == null) {
        return no(1);
      }
      return !ship(b) || d < 0 || d > 3 ? no(2) : yes(water.room(b, d));
    }

    boolean move(int b, int d, int k, boolean tell) {
      Water at = water;
      for (int i = 1; i <= k; i++) {
        int[] step = at.step(b, d);
        if (step[0] != 0) {
          if (tell) {
            why = new int[] {i, step[0], step[1]};
          }
          return false;
        }
        at = at.stepped(b, d);
      }
      water = at;
      done.add(new Done(b, d, k));
      if (done.size() > 60) {
        done.remove(0);
      }
      undone.clear();
      return true;
    }

    boolean slide(int b, int d, int k) {
      if (water == null) {
        return bad(1);
      }
      if (!ship(b) || d < 0 || d > 3 || k < 1 || k > 7) {
        return bad(2);
      }
      return move(b, d, k, true) ? good(false) : bad(9);
    }

    int why(int what) {
      return what < 0 || what > 2 ? -1 : why[what];
    }

    boolean undo() {
      if (water == null || done.isEmpty()) {
        return bad(water == null ? 1 : 11);
      }
      Done m = done.remove(done.size() - 1);
      undone.add(m);
      Ship s = water.ships.get(m.b);
      water = water.with(m.b, s.at(s.x - m.k * DX[m.d], s.y - m.k * DY[m.d]));
      return good(false);
    }

    boolean redo() {
      if (water == null || undone.isEmpty()) {
        return bad(water == null ? 1 : 11);
      }
      Done m = undone.remove(undone.size() - 1);
      done.add(m);
      Ship s = water.ships.get(m.b);
      water = water.with(m.b, s.at(s.x + m.k * DX[m.d], s.y + m.k * DY[m.d]));
      return good(false);
    }

    int plan(boolean single) {
      if (water == null) {
        return no(1);
      }
      Graph g = graph();
      if (g.spent) {
        return no(10);
      }
      int[] far = g.far(single);
      if (far[0] < 0) {
        return no(11);
      }
      plan = new ArrayList<>();
      int at = 0;
      while (far[at] > 0) {
        for (Edge e : g.edges.get(at)) {
          if ((!single || e.k == 1) && far[e.to] == far[at] - 1) {
            plan.add(new Done(e.b, e.d, e.k));
            at = e.to;
            break;
          }
        }
      }
      return yes(plan.size());
    }

    int planned(int k, int what) {
      if (plan == null || k < 0 || k >= plan.size() || what < 0 || what > 2) {
        return -1;
      }
      Done m = plan.get(k);
      return what == 0 ? m.b : what == 1 ? m.d : m.k;
    }

    int follow(int k, int many) {
      if (water == null) {
        return no(1);
      }
      if (k < 0 || many < 0) {
        return no(2);
      }
      if (plan == null) {
        return no(11);
      }
      int n = 0;
      while (n < many && (long) k + n < plan.size()) {
        Done m = plan.get(k + n);
        if (!ship(m.b) || !move(m.b, m.d, m.k, false)) {
          break;
        }
        n++;
      }
      return yes(n);
    }

    long all() {
      if (water == null) {
        return no(1);
      }
      Graph g = graph();
      if (g.spent) {
        return no(10);
      }
      int[] far = g.far(false);
      if (far[0] < 0) {
        return no(11);
      }
      BigInteger n = g.plans(0, -1, far, new HashMap<>());
      if (n.bitLength() > 62) {
        return no(10);
      }
      status = 0;
      return n.longValueExact();
    }

    int must(int b) {
      if (water == null) {
        return no(1);
      }
      if (!ship(b)) {
        return no(2);
      }
      Graph g = graph();
      if (g.spent) {
        return no(10);
      }
      int[] far = g.far(false);
      if (far[0] < 0) {
        return no(11);
      }
      return yes(g.plans(0, b, far, new HashMap<>()).signum() == 0 ? 1 : 0);
    }

    int low() {
      if (water == null) {
        return no(1);
      }
      Set<Integer> low = new HashSet<>();
      for (int b = 0; b < water.ships.size(); b++) {
        Ship s = water.ships.get(b);
        if (s.kind != 5 || s.x == s.gx && s.y == s.gy) {
          continue;
        }
        low.add(b);
        int dx = Integer.signum(s.gx - s.x);
        int dy = Integer.signum(s.gy - s.y);
        while (s.x != s.gx || s.y != s.gy) {
          s = s.at(s.x + dx, s.y + dy);
          for (int c : s.cells()) {
            int o = water.shipIn(c, -1);
            if (o >= 0) {
              low.add(o);
            }
          }
        }
      }
      return yes(low.size());
    }

    int reach() {
      if (water == null) {
        return no(1);
      }
      return graph().spent ? no(10) : yes(graph().stands.size());
    }

    int hardestFault() {
      return water == null ? 1 : graph().spent ? 10
          : Graph.hardest(graph().far(false)) < 0 ? 11 : 0;
    }

    int far() {
      int fault = hardestFault();
      if (fault != 0) {
        return no(fault);
      }
      int[] far = graph().far(false);
      return yes(far[Graph.hardest(far)]);
    }

    boolean go() {
      int fault = hardestFault();
      if (fault != 0) {
        return bad(fault);
      }
      water = graph().stands.get(Graph.hardest(graph().far(false)));
      return good(true);
    }

    int make(int seed, int barges) {
      if (water == null) {
        return no(1);
      }
      if (seed < 0 || barges < 0 || barges > 12) {
        return no(2);
      }
      water = new Water(water.w, water.h, water.walls, new ArrayList<>());
      long[] s = {seed};
      for (int i = 0; i < barges; i++) {
        for (int t = 0; t < 20; t++) {
          int sort = draw(s, 6);
          int kind = sort == 3 ? 2 : sort == 4 ? 3 : 1;
          int len = kind == 1 ? 2 + draw(s, 3) : kind == 2 ? 1 : 2;
          int x = draw(s, water.w);
          int y = draw(s, water.h);
          Ship ship = new Ship(kind, x, y, len, sort == 1 || sort == 2, x, y);
          if (fits(ship)) {
            add(ship);
            break;
          }
        }
      }
      good(true);
      return water.ships.size();
    }

    static int draw(long[] s, int n) {
      s[0] = BigInteger.valueOf(s[0]).multiply(BigInteger.valueOf(1103515245))
          .add(BigInteger.valueOf(12345)).mod(BigInteger.ONE.shiftLeft(31)).longValueExact();
      return (int) (s[0] / 65536 % n);
    }

    static int farOf(Water w) {
      Graph g = new Graph(w);
      if (g.spent) {
        return -1;
      }
      int[] far = g.far(false);
      int hardest = Graph.hardest(far);
      return hardest < 0 ? -1 : far[hardest];
    }

    int trim() {
      int fault = hardestFault();
      if (fault != 0) {
        return no(fault);
      }
      int[] far = graph().far(false);
      int base = far[Graph.hardest(far)];
      int gone = 0;
      for (int b = water.ships.size() - 1; b >= 0; b--) {
        if (water.ships.get(b).kind != 5 && farOf(water.without(b)) >= base) {
          water = water.without(b);
          gone++;
        }
      }
      boolean wall = false;
      for (int y = 0; y < water.h; y++) {
        for (int x = 0; x < water.w; x++) {
          int c = cell(x, y);
          if (water.walls.contains(c) && farOf(water.withoutWall(c)) >= base) {
            water = water.withoutWall(c);
            gone++;
            wall = true;
          }
        }
      }
      if (wall) {
        relay();
      }
      good(true);
      return gone;
    }

    void relay() {
      rows = new int[8][];
      for (int y = 0; y < water.h; y++) {
        rows[y] = new int[water.w];
        sorts[y] = 0;
        for (int x = 0; x < water.w; x++) {
          rows[y][x] = water.walls.contains(cell(x, y)) ? 1 : 0;
        }
      }
    }

    boolean turn(boolean over) {
      if (water == null) {
        return bad(1);
      }
      water = water.mapped(over);
      relay();
      return good(true);
    }

    boolean keep(int n) {
      if (water == null || n < 0 || n > 3) {
        return bad(water == null ? 1 : 2);
      }
      shelf[n] = water;
      return good(false);
    }

    int same(int n) {
      if (water == null || n < 0 || n > 3) {
        return no(water == null ? 1 : 2);
      }
      if (shelf[n] == null) {
        return no(11);
      }
      if (water.same(shelf[n])) {
        return yes(1);
      }
      List<Water> images = new ArrayList<>(List.of(shelf[n]));
      for (int i = 0; i < 16; i++) {
        images.add(images.get(i).mapped(true));
        images.add(images.get(i).mapped(false));
      }
      for (Water image : images) {
        if (water.same(image)) {
          return yes(2);
        }
      }
      return yes(0);
    }

    int show(int y) {
      if (water == null || !row(y)) {
        return no(water == null ? 1 : 2);
      }
      StringBuilder text = new StringBuilder();
      for (int x = 0; x < water.w; x++) {
        int v = sign(x, y);
        text.append(v == -2 ? '#' : v == -3 ? '.'
            : (char) ((water.ships.get(v).kind == 5 ? 'A' : 'a') + v));
      }
      out = text.toString();
      return yes(out.length());
    }

    long out(int k) {
      return k < 0 || k >= out.length() ? THROWN : out.charAt(k);
    }
  }

  private static final long THROWN = -777;
  private static int wrong = 0;
  private static long calls = 0;
  private static final long[] statuses = new long[12];

  private final BargeBasin x = new BargeBasin();
  private final Model m = new Model();
  private final Random r;
  private final int run;
  private final List<String> told = new ArrayList<>();

  private BasinAgainstModel(int run) {
    this.run = run;
    this.r = new Random(run * 7919L + 17);
  }

  private static long of(boolean b) {
    return b ? 1 : 0;
  }

  private void due(String call, long got, long want) {
    calls++;
    told.add(call + " = " + got);
    if (got != want && wrong++ < 20) {
      System.out.println("run " + run + ": " + call + " answered " + got + ", due is " + want);
      for (String line : told) {
        System.out.println("    " + line);
      }
    }
    if (x.status() != m.status && wrong++ < 20) {
      System.out.println("run " + run + ": " + call + " status " + x.status() + ", due is "
          + m.status);
      for (String line : told) {
        System.out.println("    " + line);
      }
    }
    statuses[m.status]++;
  }

  private int n(int from, int to) {
    return from + r.nextInt(to - from + 1);
  }

  private int odd(int usual) {
    int v = r.nextInt(60);
    return v == 0 ? -1 : v == 1 ? Integer.MAX_VALUE : v == 2 ? Integer.MIN_VALUE : v == 3 ? 8
        : usual;
  }

  private int side() {
    return m.water == null ? 4 : Math.max(m.water.w, m.water.h);
  }

  private int ship() {
    return m.water == null ? 0 : odd(n(0, Math.max(0, m.water.ships.size() - 1)));
  }

  private void build() {
    int c = r.nextInt(8);
    int a = odd(n(0, side() - 1));
    int b = odd(n(0, side() - 1));
    if (c == 0) {
      int sort = odd(n(0, 2));
      int many = odd(n(Math.max(0, side() - 2), 8));
      due("line(" + a + ", " + sort + ", " + many + ")", of(x.line(a, sort, many)),
          of(m.line(a, sort, many)));
    } else if (c == 1) {
      int v = r.nextInt(3) == 0 ? n(-70000, 70000) : r.nextInt(3) == 0 ? 65536 * n(0, 1) : 0;
      due("set(" + a + ", " + b + ", " + v + ")", of(x.set(a, b, v)), of(m.set(a, b, v)));
    } else if (c == 2) {
      due("get(" + a + ", " + b + ")", x.get(a, b), m.get(a, b));
    } else if (c == 3) {
      int i = odd(n(0, 4));
      int j = odd(n(0, 4));
      int many = odd(n(-1, 4));
      due("carry(" + a + ", " + i + ", " + b + ", " + j + ", " + many + ")",
          of(x.carry(a, i, b, j, many)), of(m.carry(a, i, b, j, many)));
    } else if (c == 4) {
      due("tear(" + a + ")", of(x.tear(a)), of(m.tear(a)));
    } else {
      ship(odd(n(1, 5)), a, b);
    }
  }

  private void ship(int kind, int a, int b) {
    int len = odd(kind == 1 || kind == 5 ? n(2, 4) : kind == 3 ? 2 : 1);
    boolean across = r.nextBoolean();
    due("barge(" + kind + ", " + a + ", " + b + ", " + len + ", " + across + ")",
        x.barge(kind, a, b, len, across), m.barge(kind, a, b, len, across));
  }

  private void ask() {
    int b = ship();
    int a = odd(n(0, 7));
    int c = odd(n(0, 7));
    int d = odd(n(0, 3));
    switch (r.nextInt(8)) {
      case 0: due("lies(" + b + ", " + a + ")", x.lies(b, a), m.lies(b, a)); break;
      case 1: due("field(" + a + ", " + c + ")", x.field(a, c), m.field(a, c)); break;
      case 2: due("count(" + a + ")", x.count(a), m.count(a)); break;
      case 3: due("room(" + b + ", " + d + ")", x.room(b, d), m.room(b, d)); break;
      case 4: due("low()", x.low(), m.low()); break;
      case 5: due("same(" + d + ")", x.same(d), m.same(d)); break;
      case 6: due("why(" + d + ")", x.why(d), m.why(d)); break;
      default: lookAtAll();
    }
  }

  private void lookAtAll() {
    for (int y = 0; y < 9; y++) {
      due("show(" + y + ")", x.show(y), m.show(y));
      for (int k = -1; k < 9; k++) {
        long got;
        try {
          got = x.out(k);
        } catch (NoSuchElementException e) {
          got = THROWN;
        }
        due("out(" + k + ")", got, m.out(k));
      }
    }
    for (int b = 0; m.water != null && b < m.water.ships.size(); b++) {
      for (int what = 0; what < 7; what++) {
        due("lies(" + b + ", " + what + ")", x.lies(b, what), m.lies(b, what));
      }
    }
    for (int y = 0; m.water != null && y < m.water.h; y++) {
      for (int i = 0; i < 9; i++) {
        due("get(" + y + ", " + i + ")", x.get(y, i), m.get(y, i));
      }
    }
  }

  private void move() {
    int b = ship();
    int d = odd(n(0, 3));
    int k = odd(n(1, 3));
    switch (r.nextInt(6)) {
      case 0: due("undo()", of(x.undo()), of(m.undo())); break;
      case 1: due("redo()", of(x.redo()), of(m.redo())); break;
      case 2:
        int from = odd(n(0, 2));
        int many = odd(n(0, 5));
        due("follow(" + from + ", " + many + ")", x.follow(from, many), m.follow(from, many));
        break;
      default:
        due("slide(" + b + ", " + d + ", " + k + ")", of(x.slide(b, d, k)), of(m.slide(b, d, k)));
        for (int what = -1; what < 4; what++) {
          due("why(" + what + ")", x.why(what), m.why(what));
        }
    }
  }

  private void searching() {
    int b = ship();
    switch (r.nextInt(8)) {
      case 0: due("fewest()", x.fewest(), m.plan(false)); planOf(); break;
      case 1: due("fewestSteps()", x.fewestSteps(), m.plan(true)); planOf(); break;
      case 2: due("all()", x.all(), m.all()); break;
      case 3: due("must(" + b + ")", x.must(b), m.must(b)); break;
      case 4: due("reach()", x.reach(), m.reach()); break;
      case 5: due("far()", x.far(), m.far()); break;
      case 6: due("go()", of(x.go()), of(m.go())); break;
      default:
        if (r.nextInt(3) == 0) {
          due("trim()", x.trim(), m.trim());
        }
    }
  }

  private void planOf() {
    int size = m.plan == null ? 1 : m.plan.size();
    for (int k = -1; k <= size; k++) {
      for (int what = -1; what < 4; what++) {
        due("planned(" + k + ", " + what + ")", x.planned(k, what), m.planned(k, what));
      }
    }
  }

  private void whole() {
    int d = odd(n(0, 3));
    int b = ship();
    switch (r.nextInt(5)) {
      case 0: due("lift(" + b + ")", of(x.lift(b)), of(m.lift(b))); break;
      case 1: due("keep(" + d + ")", of(x.keep(d)), of(m.keep(d))); break;
      case 2:
        boolean over = r.nextBoolean();
        due("turn(" + over + ")", of(x.turn(over)), of(m.turn(over)));
        due("same(" + d + ")", x.same(d), m.same(d));
        break;
      case 3:
        int gx = odd(n(0, side() - 1));
        int gy = odd(n(0, side() - 1));
        if (m.water != null && m.ship(b)) {
          Ship s = m.water.ships.get(b);
          gx = s.across ? s.x : gx;
          gy = s.across ? gy : s.y;
        }
        due("gate(" + b + ", " + gx + ", " + gy + ")", of(x.gate(b, gx, gy)),
            of(m.gate(b, gx, gy)));
        break;
      default:
        if (r.nextInt(4) == 0) {
          int seed = odd(r.nextInt(Integer.MAX_VALUE));
          int many = odd(n(0, 12));
          due("make(" + seed + ", " + many + ")", x.make(seed, many), m.make(seed, many));
        }
    }
  }

  /** A basin with red ones that are away from their gates, tight enough to be looked through. */
  private void harbour() {
    int w = n(3, 5 + run % 4);
    int h = n(3, 5 + run % 4);
    due("basin(" + w + ", " + h + ")", of(x.basin(w, h)), of(m.basin(w, h)));
    for (int y = 0; y < h; y++) {
      if (r.nextInt(3) > 0) {
        int sort = n(0, 2);
        int many = r.nextInt(6) == 0 ? w - 1 : n(w, 8);
        due("line(" + y + ", " + sort + ", " + many + ")", of(x.line(y, sort, many)),
            of(m.line(y, sort, many)));
        int at = n(0, w - 1);
        due("set(" + y + ", " + at + ", 7)", of(x.set(y, at, 7)), of(m.set(y, at, 7)));
      }
    }
    for (int t = 0; t < 12 + w * h; t++) {
      ship(r.nextInt(3) == 0 ? 5 : n(1, 4), n(0, w - 1), n(0, h - 1));
    }
    for (int b = 0; b < m.water.ships.size(); b++) {
      Ship s = m.water.ships.get(b);
      int gx = s.across ? s.x : n(0, w - 1);
      int gy = s.across ? n(0, h - 1) : s.y;
      due("gate(" + b + ", " + gx + ", " + gy + ")", of(x.gate(b, gx, gy)), of(m.gate(b, gx, gy)));
    }
  }

  private void play() {
    if (run % 3 == 0) {
      for (int i = 0; i < 20; i++) {
        any();
      }
    }
    for (int part = 0; part < 2; part++) {
      harbour();
      for (int i = 0; i < 70; i++) {
        any();
      }
    }
  }

  private void any() {
    int c = r.nextInt(20);
    if (c < 2) {
      build();
    } else if (c < 6) {
      ask();
    } else if (c < 13) {
      move();
    } else if (c < 18) {
      searching();
    } else if (c < 19 || r.nextInt(8) > 0) {
      whole();
    } else {
      int w = odd(n(3, 5));
      int h = odd(n(3, 5));
      due("basin(" + w + ", " + h + ")", of(x.basin(w, h)), of(m.basin(w, h)));
    }
  }

  public static void main(String[] args) {
    int runs = args.length > 0 ? Integer.parseInt(args[0]) : 60;
    int first = args.length > 1 ? Integer.parseInt(args[1]) : 0;
    for (int run = first; run < first + runs && wrong == 0; run++) {
      new BasinAgainstModel(run).play();
    }
    System.out.println(calls + " calls, by status " + Arrays.toString(statuses));
    System.out.println(wrong == 0 ? "all answers are as due" : wrong + " answers are not as due");
    if (wrong != 0) {
      System.exit(1);
    }
  }
}
