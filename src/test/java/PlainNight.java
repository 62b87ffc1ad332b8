import java.util.ArrayList;
import java.util.List;

/** A second BakeryNight for the tests: as plain and as slow as the document's words, with no thought of speed or room. */
final class PlainNight {
  static final int NONE = -1;
  static final int NO_NIGHT = -2;
  static final int TOO_MANY = -3;
  static final int FAR = 1_000_000;

  // ------------------------------------------------------------ state

  static final class State {
    int room = 24;
    int cool = 30;
    int mixers = 1;
    int bakers = 1;
    int shops = 0;
    List<int[]> doughs = new ArrayList<>();   // mix rise shape proof limit bake heat yield keep price
    List<int[]> ovens = new ArrayList<>();    // shelves heat rate broken
    List<int[]> streets = new ArrayList<>();  // from to minutes closed, home is -1
    List<int[]> vans = new ArrayList<>();     // load
    List<int[]> orders = new ArrayList<>();   // shop dough loaves by cancelled

    static List<int[]> copy(List<int[]> rows) {
      List<int[]> result = new ArrayList<>();
      for (int[] row : rows) result.add(row.clone());
      return result;
    }

    State copy() {
      State s = new State();
      s.room = room;
      s.cool = cool;
      s.mixers = mixers;
      s.bakers = bakers;
      s.shops = shops;
      s.doughs = copy(doughs);
      s.ovens = copy(ovens);
      s.streets = copy(streets);
      s.vans = copy(vans);
      s.orders = copy(orders);
      return s;
    }

    List<Integer> liveOrders() {
      List<Integer> result = new ArrayList<>();
      for (int i = 0; i < orders.size(); i++) if (orders.get(i)[4] == 0) result.add(i);
      return result;
    }

    int up(int minutes) {
      int product = minutes * 24;
      return product / room + (product % room > 0 ? 1 : 0);
    }

    int loaves(int dough) {
      int sum = 0;
      for (int i : liveOrders()) if (orders.get(i)[1] == dough) sum += orders.get(i)[2];
      return sum;
    }

    /** The doughs of the batches, by number. */
    List<Integer> batches() {
      List<Integer> kinds = new ArrayList<>();
      for (int d = 0; d < doughs.size(); d++) if (loaves(d) > 0) kinds.add(d);
      kinds.sort((a, b) -> dueOfDough(a) != dueOfDough(b) ? dueOfDough(a) - dueOfDough(b) : a - b);
      List<Integer> result = new ArrayList<>();
      for (int d : kinds) for (int got = 0; got < loaves(d); got += doughs.get(d)[7]) result.add(d);
      return result;
    }

    int dueOfDough(int dough) {
      int due = 9999;
      for (int i : liveOrders()) if (orders.get(i)[1] == dough) due = Math.min(due, orders.get(i)[3]);
      return due;
    }

    /** The least minutes from one place to another: Bellman and Ford, not Floyd. */
    int way(int from, int to) {
      int[] least = new int[shops + 1];
      for (int i = 0; i <= shops; i++) least[i] = i == from + 1 ? 0 : FAR;
      for (int turn = 0; turn <= shops; turn++) {
        for (int[] s : streets) {
          if (s[3] == 0) {
            least[s[1] + 1] = Math.min(least[s[1] + 1], least[s[0] + 1] + s[2]);
            least[s[0] + 1] = Math.min(least[s[0] + 1], least[s[1] + 1] + s[2]);
          }
        }
      }
      return least[to + 1];
    }

    int[][] ways() {
      int[][] result = new int[shops + 1][shops + 1];
      for (int a = -1; a < shops; a++) for (int b = -1; b < shops; b++) result[a + 1][b + 1] = way(a, b);
      return result;
    }
  }

  /** The best route by trying every sequence in lexicographic order; null if there is none. */
  static int[] route(int[][] ways, List<Integer> set) {
    int[][] best = new int[1][];
    int[] least = {FAR};
    tryRoutes(ways, new ArrayList<>(set), new ArrayList<>(), 0, least, best);
    return best[0];
  }

  private static void tryRoutes(int[][] ways, List<Integer> left, List<Integer> done, int sum, int[] least, int[][] best) {
    if (left.isEmpty()) {
      if (sum < least[0]) {
        least[0] = sum;
        best[0] = new int[done.size()];
        for (int i = 0; i < done.size(); i++) best[0][i] = done.get(i);
      }
      return;
    }
    for (int i = 0; i < left.size(); i++) {
      int shop = left.remove(i);
      int last = done.isEmpty() ? -1 : done.get(done.size() - 1);
      done.add(shop);
      tryRoutes(ways, left, done, sum + ways[last + 1][shop + 1], least, best);
      done.remove(done.size() - 1);
      left.add(i, shop);
    }
  }

  // ------------------------------------------------------------ a night, minute by minute

  static final class Batch {
    int number;
    int dough;
    String at = "unmixed";
    int until = -1;
    int since;
    int oven = -1;
    int[] stage = {-1, -1, -1, -1, -1, -1};
    int risen = -1;
    int proofed = -1;
    int spoiled = -1;
  }

  static final class Run {
    State s;
    int start;
    int end;
    List<Batch> batches = new ArrayList<>();
    int[] changed;
    int[] heat;
    int[] changingTo;
    int[] changeEnds;
    int[] ready;
    int[] oldest;
    int[] surplus;
    int[] surplusOut;
  }

  static Run run(State s, int start) {
    Run r = new Run();
    r.s = s;
    r.start = start;
    r.end = start;
    for (int d : s.batches()) {
      Batch b = new Batch();
      b.number = r.batches.size();
      b.dough = d;
      b.since = start;
      r.batches.add(b);
    }
    int n = s.ovens.size();
    r.changed = new int[n];
    r.heat = new int[n];
    r.changingTo = new int[n];
    r.changeEnds = new int[n];
    for (int o = 0; o < n; o++) {
      r.heat[o] = s.ovens.get(o)[1];
      r.changingTo[o] = -1;
    }
    for (int t = start; open(r) > 0; t++) minute(r, t);
    for (Batch b : r.batches) r.end = Math.max(r.end, Math.max(b.stage[5], b.spoiled));
    give(r);
    return r;
  }

  private static int open(Run r) {
    int open = 0;
    for (Batch b : r.batches) if (!b.at.equals("baked") && !b.at.equals("spoiled")) open++;
    return open;
  }

  private static int count(Run r, String at) {
    int result = 0;
    for (Batch b : r.batches) if (b.at.equals(at)) result++;
    return result;
  }

  private static int shelf(Run r, int oven) {
    int result = 0;
    for (Batch b : r.batches) if (b.at.equals("baking") && b.oven == oven) result++;
    return result;
  }

  private static List<Batch> waiting(Run r, String at) {
    List<Batch> result = new ArrayList<>();
    for (Batch b : r.batches) if (b.at.equals(at)) result.add(b);
    result.sort((a, b) -> a.since != b.since ? a.since - b.since : a.number - b.number);
    return result;
  }

  private static void minute(Run r, int t) {
    State s = r.s;
    for (Batch b : r.batches) {
      int[] d = s.doughs.get(b.dough);
      if (b.at.equals("mixing") && b.until == t) {
        b.at = "rising";
        b.stage[1] = t;
        b.until = t + s.up(d[1]);
      }
      if (b.at.equals("rising") && b.until == t) {
        b.at = "for shaping";
        b.since = t;
        b.risen = t;
      }
      if (b.at.equals("shaping") && b.until == t) {
        b.at = "proofing";
        b.stage[3] = t;
        b.until = t + s.up(d[3]);
      }
      if (b.at.equals("proofing") && b.until == t) {
        b.at = "for oven";
        b.since = t;
        b.proofed = t;
      }
      if (b.at.equals("baking") && b.until == t) {
        b.at = "baked";
        b.stage[5] = t;
      }
    }
    for (int o = 0; o < r.heat.length; o++) {
      if (r.changingTo[o] >= 0 && r.changeEnds[o] == t) {
        r.heat[o] = r.changingTo[o];
        r.changingTo[o] = -1;
      }
    }
    for (Batch b : waiting(r, "for oven")) {
      if (t - b.since > s.doughs.get(b.dough)[4]) {
        b.at = "spoiled";
        b.spoiled = t;
      }
    }
    for (Batch b : waiting(r, "for oven")) oven(r, b, t);
    for (Batch b : waiting(r, "for shaping")) {
      if (count(r, "shaping") < s.bakers) {
        b.at = "shaping";
        b.stage[2] = t;
        b.until = t + s.doughs.get(b.dough)[2];
      }
    }
    for (Batch b : r.batches) {
      if (b.at.equals("unmixed") && count(r, "mixing") < s.mixers) {
        b.at = "mixing";
        b.stage[0] = t;
        b.until = t + s.doughs.get(b.dough)[0];
      }
    }
  }

  private static void oven(Run r, Batch b, int t) {
    State s = r.s;
    int[] d = s.doughs.get(b.dough);
    for (int o = 0; o < r.heat.length; o++) {
      if (s.ovens.get(o)[3] == 0 && r.changingTo[o] < 0 && r.heat[o] == d[6] && shelf(r, o) < s.ovens.get(o)[0]) {
        b.at = "baking";
        b.oven = o;
        b.stage[4] = t;
        b.until = t + d[5];
        return;
      }
    }
    for (int o = 0; o < r.heat.length; o++) if (r.changingTo[o] == d[6]) return;
    int best = -1;
    int least = FAR;
    for (int o = 0; o < r.heat.length; o++) {
      if (s.ovens.get(o)[3] == 0 && r.changingTo[o] < 0 && shelf(r, o) == 0) {
        int minutes = 0;
        for (int far = Math.abs(r.heat[o] - d[6]); far > 0; far -= s.ovens.get(o)[2]) minutes++;
        if (minutes < least) {
          least = minutes;
          best = o;
        }
      }
    }
    if (best >= 0) {
      r.changingTo[best] = d[6];
      r.changeEnds[best] = t + least;
      r.changed[best] += least;
    }
  }

  /** Gives single loaves to single orders. */
  private static void give(Run r) {
    State s = r.s;
    r.ready = new int[s.orders.size()];
    r.oldest = new int[s.orders.size()];
    r.surplus = new int[s.doughs.size()];
    r.surplusOut = new int[s.doughs.size()];
    java.util.Arrays.fill(r.ready, -1);
    java.util.Arrays.fill(r.oldest, -1);
    for (int d = 0; d < s.doughs.size(); d++) {
      final int kind = d;
      List<Batch> baked = new ArrayList<>();
      for (Batch b : r.batches) if (b.dough == d && b.at.equals("baked")) baked.add(b);
      baked.sort((a, b) -> a.stage[5] != b.stage[5] ? a.stage[5] - b.stage[5] : a.number - b.number);
      List<Integer> loaves = new ArrayList<>();
      for (Batch b : baked) for (int i = 0; i < s.doughs.get(d)[7]; i++) loaves.add(b.stage[5]);
      List<Integer> orders = new ArrayList<>();
      for (int i : s.liveOrders()) if (s.orders.get(i)[1] == kind) orders.add(i);
      orders.sort((a, b) -> s.orders.get(a)[3] != s.orders.get(b)[3] ? s.orders.get(a)[3] - s.orders.get(b)[3] : a - b);
      boolean enough = true;
      for (int i : orders) {
        if (loaves.size() < s.orders.get(i)[2]) enough = false;
        if (!enough) continue;
        r.oldest[i] = loaves.get(0);
        for (int k = 0; k < s.orders.get(i)[2]; k++) r.ready[i] = loaves.remove(0) + s.cool;
      }
      r.surplus[d] = enough ? loaves.size() : 0;
      r.surplusOut[d] = r.surplus[d] > 0 ? loaves.get(0) : -1;
      for (int i = 0; i < r.surplus[d]; i++) {
        if (!loaves.get(i).equals(loaves.get(0))) throw new IllegalStateException("surplus loaves of two batches");
      }
    }
  }

  // ------------------------------------------------------------ the deliveries

  static final class Plan {
    int missed;
    int late;
    int minutes;
    int[] van;
    int[] arrival;
    int[] departure;
    int stale;
    boolean exists;
  }

  static Plan plan(State s, Run r) {
    Plan p = new Plan();
    int n = s.shops;
    int[] due = new int[n];
    int[] ready = new int[n];
    int[] load = new int[n];
    boolean[] ordered = new boolean[n];
    boolean[] missed = new boolean[n];
    java.util.Arrays.fill(due, 9999);
    for (int i : s.liveOrders()) {
      int[] o = s.orders.get(i);
      ordered[o[0]] = true;
      if (r.ready[i] < 0) missed[o[0]] = true;
      due[o[0]] = Math.min(due[o[0]], o[3]);
      ready[o[0]] = Math.max(ready[o[0]], r.ready[i]);
      load[o[0]] += o[2];
    }
    List<Integer> served = new ArrayList<>();
    for (int i = 0; i < n; i++) {
      if (missed[i]) p.missed++;
      else if (ordered[i]) served.add(i);
    }
    int[] vans = new int[n];
    java.util.Arrays.fill(vans, -1);
    assign(s, p, s.ways(), served, 0, vans, due, ready, load, new java.util.HashMap<>());
    if (p.exists) {
      for (int i : s.liveOrders()) {
        int[] o = s.orders.get(i);
        if (p.van[o[0]] >= 0 && p.arrival[o[0]] > r.oldest[i] + s.doughs.get(o[1])[8]) p.stale++;
      }
    }
    return p;
  }

  private static void assign(State s, Plan p, int[][] ways, List<Integer> served, int index, int[] vans, int[] due,
      int[] ready, int[] load, java.util.Map<List<Integer>, int[]> routes) {
    if (index < served.size()) {
      for (int v = 0; v < s.vans.size(); v++) {
        vans[served.get(index)] = v;
        assign(s, p, ways, served, index + 1, vans, due, ready, load, routes);
      }
      vans[served.get(index)] = -1;
      return;
    }
    int late = 0;
    int minutes = 0;
    int[] arrival = new int[s.shops];
    int[] departure = new int[s.vans.size()];
    java.util.Arrays.fill(departure, -1);
    for (int v = 0; v < s.vans.size(); v++) {
      List<Integer> mine = new ArrayList<>();
      int sum = 0;
      for (int i : served) {
        if (vans[i] == v) {
          mine.add(i);
          sum += load[i];
          departure[v] = Math.max(departure[v], ready[i]);
        }
      }
      if (sum > s.vans.get(v)[0]) return;
      if (!routes.containsKey(mine)) routes.put(mine, route(ways, mine));
      int[] stops = routes.get(mine);
      if (stops == null) return;
      int t = departure[v];
      int last = -1;
      for (int stop : stops) {
        t += ways[last + 1][stop + 1];
        minutes += ways[last + 1][stop + 1];
        last = stop;
        arrival[stop] = t;
        if (t > due[stop]) late++;
      }
    }
    if (!p.exists || late < p.late || late == p.late && minutes < p.minutes) {
      p.exists = true;
      p.late = late;
      p.minutes = minutes;
      p.van = vans.clone();
      p.arrival = arrival;
      p.departure = departure;
    }
  }

  static int failed(State s, int start) {
    Plan p = plan(s, run(s, start));
    return p.exists ? p.missed + p.late : NONE;
  }

  /** Tries every start from the last one on. */
  static int latest(State s) {
    for (int start = 1439; start >= 0; start--) if (failed(s, start) == 0) return start;
    return NONE;
  }

  static State with(State s, int change) {
    State c = s.copy();
    if (change == 0) c.mixers++;
    if (change == 1) c.bakers++;
    if (change == 2) c.room++;
    if (change == 3) for (int[] o : c.ovens) o[0]++;
    if (change == 4 && !c.vans.isEmpty()) c.vans.get(0)[0] = 1_000_000;
    return c;
  }

  // ------------------------------------------------------------ reading a text

  static final class Fault extends Exception {
    private static final long serialVersionUID = 1L;
    final int code;
    final int offset;

    Fault(int code, int offset) {
      this.code = code;
      this.offset = offset;
    }
  }

  static final class Reader {
    final List<String> tokens = new ArrayList<>();
    final List<Integer> offsets = new ArrayList<>();
    int at = 0;
    int statements = 0;
    final State s = new State();
    final List<String> doughs = new ArrayList<>();
    final List<String> shops = new ArrayList<>();
    final List<String> given = new ArrayList<>();
    static final List<String> KEYWORDS = List.of(("room cool mixers bakers dough mix rise shape proof limit bake heat "
        + "yield keep price oven shelves rate shop street van order by home").split(" "));

    Reader(String text) {
      java.util.regex.Matcher m = java.util.regex.Pattern.compile("[a-z]+|[0-9]+|[^a-z0-9 \n]", java.util.regex.Pattern.DOTALL)
          .matcher(text);
      while (m.find()) {
        tokens.add(m.group());
        offsets.add(m.start());
      }
      tokens.add("");
      offsets.add(text.length());
    }

    String token() {
      return tokens.get(at);
    }

    Fault fault(int code) {
      return new Fault(code, offsets.get(at));
    }

    void word(String word) throws Fault {
      if (!token().equals(word)) throw fault(1);
      at++;
    }

    int number(int low, int high) throws Fault {
      if (!token().matches("[0-9]{1,4}")) throw fault(1);
      int value = Integer.parseInt(token());
      if (value < low || value > high) throw fault(2);
      at++;
      return value;
    }

    String name() throws Fault {
      if (!token().matches("[a-z]{1,8}") || KEYWORDS.contains(token())) throw fault(1);
      return token();
    }

    void define(List<String> names) throws Fault {
      if (names.contains(name())) throw fault(3);
      names.add(token());
      at++;
    }

    int known(List<String> names) throws Fault {
      int index = names.indexOf(name());
      if (index < 0) throw fault(4);
      at++;
      return index;
    }

    int place() throws Fault {
      if (token().equals("home")) {
        at++;
        return -1;
      }
      return known(shops);
    }

    void most(int already, int most) throws Fault {
      if (already >= most) throw fault(5);
      at++;
    }

    void once() throws Fault {
      if (given.contains(token())) throw fault(3);
      given.add(token());
      at++;
    }

    void read() throws Fault {
      while (at < tokens.size() - 1) {
        statement();
        word(";");
        statements++;
      }
    }

    void statement() throws Fault {
      switch (token()) {
        case "room": once(); s.room = number(10, 40); break;
        case "cool": once(); s.cool = number(0, 120); break;
        case "mixers": once(); s.mixers = number(1, 4); break;
        case "bakers": once(); s.bakers = number(1, 4); break;
        case "dough": {
          most(s.doughs.size(), 6);
          define(doughs);
          String[] words = "mix rise shape proof limit bake heat yield keep price".split(" ");
          int[] low = {1, 0, 1, 0, 0, 1, 100, 5, 1, 0};
          int[] high = {120, 300, 120, 300, 240, 120, 300, 200, 1440, 999};
          int[] d = new int[10];
          for (int i = 0; i < 10; i++) {
            word(words[i]);
            d[i] = number(low[i], high[i]);
          }
          s.doughs.add(d);
          break;
        }
        case "oven": {
          most(s.ovens.size(), 4);
          int[] o = new int[4];
          word("shelves");
          o[0] = number(1, 6);
          word("heat");
          o[1] = number(20, 300);
          word("rate");
          o[2] = number(1, 50);
          s.ovens.add(o);
          break;
        }
        case "shop": most(shops.size(), 7); define(shops); s.shops++; break;
        case "street": {
          most(s.streets.size(), 20);
          int from = place();
          int before = at;
          int to = place();
          if (from == to) {
            at = before;
            throw fault(3);
          }
          s.streets.add(new int[] {from, to, number(1, 120), 0});
          break;
        }
        case "van": most(s.vans.size(), 3); s.vans.add(new int[] {number(1, 2000)}); break;
        case "order": {
          most(s.orders.size(), 24);
          int shop = known(shops);
          int dough = known(doughs);
          int loaves = number(1, 200);
          word("by");
          s.orders.add(new int[] {shop, dough, loaves, number(0, 1439), 0});
          break;
        }
        default: throw fault(1);
      }
    }
  }

  // ------------------------------------------------------------ the face

  State s = new State();
  final List<State> before = new ArrayList<>();
  Run night;
  Plan best;
  int code = 0;
  int offset = NONE;

  int parse(String text) {
    Reader reader = new Reader(text);
    code = 0;
    offset = NONE;
    try {
      reader.read();
    } catch (Fault f) {
      code = f.code;
      offset = f.offset;
      return NONE;
    }
    s = reader.s;
    before.clear();
    night = null;
    return reader.statements;
  }

  boolean hasOrder(int order) {
    return order >= 0 && order < s.orders.size() && s.orders.get(order)[4] == 0;
  }

  void change() {
    before.add(s.copy());
    if (before.size() > 12) before.remove(0);
    night = null;
  }

  int orderedLoaves(int dough) {
    return dough < 0 || dough >= s.doughs.size() ? NONE : s.loaves(dough);
  }

  int batchCount() {
    return s.batches().size() > 60 ? TOO_MANY : s.batches().size();
  }

  int risingMinutes(int dough, boolean proofing) {
    return dough < 0 || dough >= s.doughs.size() ? NONE : s.up(s.doughs.get(dough)[proofing ? 3 : 1]);
  }

  int distance(int from, int to) {
    if (from < -1 || to < -1 || from >= s.shops || to >= s.shops) return NONE;
    return s.way(from, to) >= FAR ? NONE : s.way(from, to);
  }

  int[] routeOf(int shops) {
    List<Integer> set = new ArrayList<>();
    for (int i = 0; i < 32; i++) {
      if ((shops >>> i & 1) == 1) {
        if (i >= s.shops) return null;
        set.add(i);
      }
    }
    return route(s.ways(), set);
  }

  int routeMinutes(int shops) {
    int[] route = routeOf(shops);
    if (route == null) return NONE;
    int sum = 0;
    int last = -1;
    for (int stop : route) {
      sum += s.way(last, stop);
      last = stop;
    }
    return sum;
  }

  int routeStop(int shops, int index) {
    int[] route = routeOf(shops);
    return route == null || index < 0 || index >= route.length ? NONE : route[index];
  }

  int simulate(int start) {
    if (start < 0 || start > 1439) return NONE;
    if (batchCount() == TOO_MANY) return TOO_MANY;
    night = run(s, start);
    best = plan(s, night);
    return night.end;
  }

  boolean noBatch(int batch) {
    return batch < 0 || batch >= night.batches.size();
  }

  int batchDough(int batch) {
    if (night == null) return Check.ILLEGAL_STATE;
    return noBatch(batch) ? Check.OUT_OF_BOUNDS : night.batches.get(batch).dough;
  }

  int stageMinute(int batch, int stage) {
    if (night == null) return Check.ILLEGAL_STATE;
    return noBatch(batch) || stage < 0 || stage > 5 ? Check.OUT_OF_BOUNDS : night.batches.get(batch).stage[stage];
  }

  int ovenOf(int batch) {
    if (night == null) return Check.ILLEGAL_STATE;
    return noBatch(batch) ? Check.OUT_OF_BOUNDS : night.batches.get(batch).oven;
  }

  int spoiledCount() {
    return night == null ? NO_NIGHT : count(night, "spoiled");
  }

  boolean noOven(int oven) {
    return oven < 0 || oven >= s.ovens.size();
  }

  int changingMinutes(int oven) {
    return night == null ? NO_NIGHT : noOven(oven) ? NONE : night.changed[oven];
  }

  int bakingMinutes(int oven) {
    if (night == null) return NO_NIGHT;
    if (noOven(oven)) return NONE;
    int sum = 0;
    for (int t = night.start; t <= night.end; t++) sum += shelvesUsed(oven, t);
    return sum;
  }

  int waitingMinutes(int place) {
    if (night == null) return NO_NIGHT;
    if (place < 0 || place > 2) return NONE;
    int sum = 0;
    for (Batch b : night.batches) {
      if (place == 0) sum += b.stage[0] - night.start;
      else if (place == 1) sum += b.stage[2] - b.risen;
      else sum += (b.spoiled >= 0 ? b.spoiled : b.stage[4]) - b.proofed;
    }
    return sum;
  }

  int shelvesUsed(int oven, int minute) {
    if (night == null) return NO_NIGHT;
    if (noOven(oven)) return NONE;
    int sum = 0;
    for (Batch b : night.batches) if (b.oven == oven && b.stage[4] <= minute && b.stage[5] > minute) sum++;
    return sum;
  }

  int busy(int place, int minute) {
    if (night == null) return NO_NIGHT;
    if (place < 0 || place > 2) return NONE;
    int sum = 0;
    for (Batch b : night.batches) {
      int from = b.stage[place * 2];
      int to = b.stage[place * 2 + 1];
      if (from >= 0 && from <= minute && minute <= to - 1) sum++;
    }
    return sum;
  }

  int busiestMinute(int place) {
    if (night == null) return NO_NIGHT;
    if (place < 0 || place > 2) return NONE;
    int most = 0;
    int first = NONE;
    for (int t = night.start; t <= night.end; t++) {
      if (busy(place, t) > most) {
        most = busy(place, t);
        first = t;
      }
    }
    return first;
  }

  int readyMinute(int order) {
    return night == null ? NO_NIGHT : !hasOrder(order) ? NONE : night.ready[order];
  }

  int surplusLoaves(int dough) {
    return night == null ? NO_NIGHT : dough < 0 || dough >= s.doughs.size() ? NONE : night.surplus[dough];
  }

  int surplusValue(int minute) {
    if (night == null) return NO_NIGHT;
    if (minute < 0 || minute > 9999) return NONE;
    int cents = 0;
    for (int d = 0; d < s.doughs.size(); d++) {
      for (int i = 0; i < night.surplus[d]; i++) {
        int a = minute - night.surplusOut[d];
        int keep = s.doughs.get(d)[8];
        if (a >= 0 && a <= keep) cents += s.doughs.get(d)[9] * (keep - a) / keep;
      }
    }
    return cents;
  }

  int failedShops() {
    return night == null ? NO_NIGHT : best.exists ? best.late + best.missed : NONE;
  }

  int vanOf(int shop) {
    if (night == null) return NO_NIGHT;
    return !best.exists || shop < 0 || shop >= s.shops ? NONE : best.van[shop];
  }

  int arrivalMinute(int shop) {
    if (night == null) return NO_NIGHT;
    return vanOf(shop) == NONE ? NONE : best.arrival[shop];
  }

  int departureMinute(int van) {
    if (night == null) return NO_NIGHT;
    return !best.exists || van < 0 || van >= s.vans.size() ? NONE : best.departure[van];
  }

  int staleOrders() {
    return night == null ? NO_NIGHT : best.exists ? best.stale : NONE;
  }

  int setRoom(int degrees) {
    if (degrees < 10 || degrees > 40) return NONE;
    change();
    int old = s.room;
    s.room = degrees;
    return old;
  }

  boolean breakOven(int oven, boolean broken) {
    if (noOven(oven)) return false;
    change();
    s.ovens.get(oven)[3] = broken ? 1 : 0;
    return true;
  }

  boolean closeStreet(int street, boolean closed) {
    if (street < 0 || street >= s.streets.size()) return false;
    change();
    s.streets.get(street)[3] = closed ? 1 : 0;
    return true;
  }

  int addOrder(int shop, int dough, int loaves, int by) {
    if (shop < 0 || shop >= s.shops || dough < 0 || dough >= s.doughs.size()) return NONE;
    if (loaves < 1 || loaves > 200 || by < 0 || by > 1439 || s.orders.size() >= 24) return NONE;
    change();
    s.orders.add(new int[] {shop, dough, loaves, by, 0});
    return s.orders.size() - 1;
  }

  boolean cancelOrder(int order) {
    if (!hasOrder(order)) return false;
    change();
    s.orders.get(order)[4] = 1;
    return true;
  }

  int moveOrder(int order, int by) {
    if (!hasOrder(order) || by < 0 || by > 1439) return NONE;
    change();
    int old = s.orders.get(order)[3];
    s.orders.get(order)[3] = by;
    return old;
  }

  int undo() {
    if (before.isEmpty()) return NONE;
    s = before.remove(before.size() - 1);
    night = null;
    return before.size();
  }
}
