/** The boundary cases that the document names for streets, routes, deliveries and the latest start, a sentence each. */
public final class PlanEdgeTest {
  private static final int NONE = BakeryNight.NONE;
  private static final int NO_NIGHT = BakeryNight.NO_NIGHT;
  private static final int TOO_MANY = BakeryNight.TOO_MANY;

  private PlanEdgeTest() { }

  /** Three shops at 10, 20 and 30 minutes from home; all bread of a night is ready 12 minutes after its start. */
  private static String star(String vans, int... by) {
    StringBuilder t = new StringBuilder("mixers 4;bakers 4;cool 0;" + Given.dough("x", "1 0 1 0", 99, 10, 200, 200)
        + Given.oven(6, 200, 1) + "shop a;shop b;shop c;street home a 10;street home b 20;street home c 30;" + vans);
    for (int i = 0; i < by.length; i++) t.append("order ").append((char) ('a'
        + i)).append(" x 10 by ").append(by[i]).append(';');
    return t.toString();
  }

  private static void plan(String what, BakeryNight x, int failed, int... vans) {
    Check.due(what + ": failed shops", x.failedShops(), failed);
    for (int i = 0; i < vans.length; i++) Check.due(what + ": van of " + i, x.vanOf(i), vans[i]);
  }

  private static void noPlan(String what, BakeryNight x) {
    plan(what, x, NONE, NONE, NONE, NONE);
    Check.due(what + ": stale orders", x.staleOrders(), NONE);
    for (int i = 0; i < 3; i++) {
      Check.due(what + ": arrival at " + i, x.arrivalMinute(i), NONE);
      Check.due(what + ": departure of " + i, x.departureMinute(i), NONE);
    }
    Check.due(what + ": latest start", x.latestStart(), NONE);
    Check.due(what + ": vital street", x.vitalStreet(), NONE);
  }

  // ------------------------------------------------------------ streets and routes

  private static void distances() {
    BakeryNight x = Check.bakery("shop a;shop b;shop c;street home a 120;street a b 1;street home a 119;"
        + "street a home 120;street b home 120;");
    Check.due("the shortest of several streets", x.distance(NONE, 0), 119);
    Check.due("the same in both directions", x.distance(0, NONE), 119);
    Check.due("by two streets as far as by one", x.distance(NONE, 1), 120);
    Check.due("the same place", x.distance(0, 0), 0);
    Check.due("the same place without a street", x.distance(2, 2), 0);
    Check.due("home to home", x.distance(NONE, NONE), 0);
    Check.due("no way to the last shop", x.distance(NONE, 2), NONE);
    Check.due("no way from the last shop", x.distance(2, NONE), NONE);
    Check.due("no such shop", x.distance(3, 3), NONE);
    Check.due("no such shop to go to", x.distance(NONE, 3), NONE);
    Check.due("no such shop to come from", x.distance(3, NONE), NONE);
    Check.due("-1 is the bakery, -2 is no place", x.distance(-2, -2), NONE);
    Check.due("-2 to home", x.distance(-2, NONE), NONE);
    Check.due("home to -2", x.distance(NONE, -2), NONE);
    BakeryNight line = Check.bakery(Given.times(7, "shop #;")
        + "street home a 120;street a b 120;street b c 120;street c d 120;"
        + "street d e 120;street e f 120;street f g 120;");
    Check.due("the longest way", line.distance(NONE, 6), 840);
    Check.due("there and on", line.routeMinutes(64), 840);
    Check.due("all shops of the line", line.routeMinutes(127), 840);
    Check.due("both ends", line.routeMinutes(65), 840);
    line.closeStreet(6, true);
    Check.due("cut off", line.distance(NONE, 6), NONE);
    Check.due("one of them cut off", line.routeMinutes(127), NONE);
    Check.due("the others are not", line.routeMinutes(63), 720);
    Check.due("no stop of that route", line.routeStop(127, 0), NONE);
    Check.due("a stop of the other", line.routeStop(63, 5), 5);
    Check.due("no stop after the last one", line.routeStop(63, 6), NONE);
    BakeryNight alone = Check.bakery("shop a;");
    Check.due("no streets at all", alone.distance(NONE, 0), NONE);
    Check.due("a shop without streets", alone.routeMinutes(1), NONE);
    Check.due("the empty set needs no street", alone.routeMinutes(0), 0);
  }

  /** Sets of shops: bit s for shop s, no bit beyond the shops; stops from 0 to one less than there are shops. */
  private static void sets() {
    for (int shops = 0; shops <= 7; shops++) {
      StringBuilder t = new StringBuilder(Given.times(shops, "shop #;"));
      t.append(Given.times(shops, "street home # 3;"));
      BakeryNight x = Check.bakery(t.toString());
      int all = (1 << shops) - 1;
      Check.due("the empty set of " + shops, x.routeMinutes(0), 0);
      Check.due("no stop of the empty set", x.routeStop(0, 0), NONE);
      Check.due("all of " + shops, x.routeMinutes(all), shops == 0 ? 0 : 6 * shops - 3);
      for (int i = 0; i < shops; i++) {
        Check.due("stop " + i + " of all, on a tie by number", x.routeStop(all, i), i);
        Check.due("the only stop", x.routeStop(1 << i, 0), i);
        Check.due("no second stop", x.routeStop(1 << i, 1), NONE);
      }
      Check.due("no stop after the last of " + shops, x.routeStop(all, shops), NONE);
      Check.due("no stop -1", x.routeStop(all, -1), NONE);
      for (int bit = shops; bit < 32; bit++) {
        Check.due("bit " + bit + " of " + shops + " shops", x.routeMinutes(1 << bit), NONE);
        Check.due("bit " + bit + " with all of " + shops + " shops", x.routeMinutes(all | 1 << bit), NONE);
        Check.due("no stop of bit " + bit, x.routeStop(all | 1 << bit, 0), NONE);
      }
    }
  }

  /** The sum is least; on a tie, the lexicographically smallest sequence of shop numbers. */
  private static void routes() {
    String three = "shop a;shop b;shop c;street home a 5;street home b 5;street home c 5;street a b 5;"
        + "street b c 5;street a c 5;";
    BakeryNight x = Check.bakery(three);
    int[][] sets = {{7, 0, 1, 2}, {6, 1, 2}, {5, 0, 2}, {3, 0, 1}};
    for (int[] s : sets) for (int i = 1; i < s.length; i++) Check.due("all alike, set " + s[0],
        x.routeStop(s[0], i - 1), s[i]);
    int[][] nearer = {{0, 0, 1, 2}, {1, 1, 0, 2}, {2, 2, 0, 1}};
    String[] streets = {"home a", "home b", "home c"};
    for (int[] n : nearer) {
      BakeryNight y = Check.bakery(three.replace(streets[n[0]] + " 5", streets[n[0]] + " 4"));
      Check.due("a minute less along " + streets[n[0]], y.routeMinutes(7), 14);
      for (int i = 0; i < 3; i++) Check.due("first along " + streets[n[0]], y.routeStop(7, i), n[i + 1]);
    }
    BakeryNight ab = Check.bakery(three.replace("a b 5", "a b 4"));
    Check.due("a b is shorter", ab.routeMinutes(7), 14);
    Check.due("so b comes after a", ab.routeStop(7, 1), 1);
    BakeryNight bc = Check.bakery(three.replace("b c 5", "b c 4").replace("home c 5", "home c 6"));
    Check.due("b c is shorter", bc.routeMinutes(7), 14);
    Check.due("a first, on a tie", bc.routeStop(7, 0), 0);
    BakeryNight ac = Check.bakery(three.replace("a c 5", "a c 4"));
    Check.due("a c is shorter", ac.routeMinutes(7), 14);
    Check.due("a first, then c", ac.routeStop(7, 1), 2);
    Check.due("then b", ac.routeStop(7, 2), 1);
  }

  // ------------------------------------------------------------ deliveries

  /** A shop is late if the van arrives after its due minute. */
  private static void late() {
    for (int start : new int[] {0, 7}) {
      plan("in the due minute", Given.night(star("van 99;", 22 + start), start), 0, 0);
      plan("a minute after it", Given.night(star("van 99;", 21 + start), start), 1, 0);
      plan("at the second stop in the due minute", Given.night(star("van 99;", 900, 52 + start), start), 0, 0, 0);
      plan("at the second stop a minute after it", Given.night(star("van 99;", 900, 51 + start), start), 1, 0, 0);
      plan("all late", Given.night(star("van 99;", 21 + start, 51 + start, 101 + start), start), 3, 0, 0, 0);
    }
    String two = star("van 99;", 900) + "order a x 1 by ";
    plan("the least minute of its orders, kept", Given.night(two + "22;", 0), 0, 0);
    plan("the least minute of its orders, not kept", Given.night(two + "21;", 0), 1, 0);
    BakeryNight x = Check.bakery(two + "21;");
    x.cancelOrder(1);
    x.simulate(0);
    plan("a cancelled order has no due minute", x, 0, 0);
    plan("due at 0", Given.night(star("van 99;", 0), 0), 1, 0);
    plan("due at 1439", Given.night(star("van 99;", 1439), 1417), 0, 0);
    plan("due at 1439, a minute late", Given.night(star("van 99;", 1439), 1418), 1, 0);
    plan("due at 1439, from 1439", Given.night(star("van 99;", 1439), 1439), 1, 0);
  }

  /** A van carries at most as many loaves as it can; there is no plan if no assignment is possible. */
  private static void loads() {
    plan("exactly the load", Given.night(star("van 30;", 900, 900, 900), 0), 0, 0, 0, 0);
    noPlan("a loaf too much", Given.night(star("van 29;", 900, 900, 900), 0));
    noPlan("no vans", Given.night(star("", 900, 900, 900), 0));
    String least = star("van 1;", 900).replace("x 10 by", "x 1 by");
    plan("a loaf in the least van", Given.night(least, 0), 0, 0);
    noPlan("two loaves for the least van", Given.night(least.replace("x 1 by", "x 2 by"), 0));
    plan("one shop each", Given.night(star("van 10;van 10;van 10;", 900, 900, 900), 0), 0, 0, 1, 2);
    noPlan("one van is too small", Given.night(star("van 10;van 9;van 10;", 900, 900, 900), 0));
    noPlan("loaves of a shop are not shared by vans", Given.night(star("van 10;van 10;van 10;", 900)
        + "order a x 1 by 900;", 0));
    plan("the only van that can", Given.night(star("van 9;van 9;van 30;", 900, 900, 900), 0), 0, 2, 2, 2);
    plan("two shops in the greater van", Given.night(star("van 19;van 20;", 900, 900, 900), 0), 0, 1, 0, 1);
    BakeryNight x = Check.bakery(star("van 30;", 900, 900, 900) + "order c x 1 by 900;");
    x.simulate(0);
    noPlan("an order of one loaf more", x);
    x.cancelOrder(3);
    x.simulate(0);
    plan("it is cancelled", x, 0, 0, 0, 0);
    String much = star("van 2000;", 900).replace("yield 200", "yield 100") + "order a x 200 by 900;".repeat(9);
    plan("2000 loaves in the greatest van", Given.night(much + "order a x 190 by 900;", 0), 0, 0);
    noPlan("2001 loaves", Given.night(much + "order a x 191 by 900;", 0));
  }

  /** There is no plan if a shop cannot be reached; a missed shop needs no van, nor a street. */
  private static void reached() {
    BakeryNight x = Check.bakery(star("van 99;", 900, 900, 900));
    x.closeStreet(1, true);
    x.simulate(0);
    noPlan("a shop cannot be reached", x);
    x.cancelOrder(1);
    x.simulate(0);
    plan("no order for it", x, 0, 0, NONE, 0);
    x.undo();
    x.breakOven(0, true);
    x.simulate(0);
    plan("all are missed", x, 3, NONE, NONE, NONE);
    Check.due("all are missed: stale orders", x.staleOrders(), 0);
    Check.due("all are missed: latest start", x.latestStart(), NONE);
    plan("missed, without vans", Given.night(star("", 900, 900).replace("heat 200 rate", "heat 20 rate"), 0), 2, NONE,
        NONE, NONE);
    String one = star("van 10;", 900, 900).replace("yield 200", "yield 10").replace("limit 99",
        "limit 0").replace("shelves 6", "shelves 1");
    plan("one is missed, the other is all that the van carries", Given.night(one, 0), 1, 0, NONE, NONE);
    BakeryNight none = Given.night(star(""), 0);
    plan("no shop to serve, no vans", none, 0, NONE, NONE, NONE);
    Check.due("no shop to serve, no vans: stale orders", none.staleOrders(), 0);
    Check.due("no shop to serve, no vans: departure", none.departureMinute(0), NONE);
    plan("an empty bakery", Given.night("", 0), 0, NONE);
    BakeryNight cancelled = Check.bakery(star("", 900));
    cancelled.simulate(0);
    noPlan("an order without a van", cancelled);
    cancelled.cancelOrder(0);
    cancelled.simulate(0);
    plan("the only order is cancelled", cancelled, 0, NONE);
  }

  /** A shop is ready at the greatest minute of its orders, and missed if one of them is never ready. */
  private static void readiness() {
    String text = "mixers 4;bakers 4;cool 5;" + Given.dough("x", "1 0 1 0", 12, 10, 200, 10) + Given.oven(1, 200, 1)
        + "shop a;shop b;street home a 10;street home b 20;van 99;van 99;";
    BakeryNight x = Given.night(text + "order a x 10 by 500;order b x 10 by 501;", 0);
    Check.due("a's bread is ready", x.departureMinute(x.vanOf(0)), 17);
    Check.due("b's bread is ready later", x.departureMinute(x.vanOf(1)), 27);
    x = Given.night(text + "order a x 5 by 500;order b x 10 by 501;order a x 5 by 502;", 0);
    Check.due("a's last order is ready", x.departureMinute(x.vanOf(0)), 27);
    Check.due("a arrival", x.arrivalMinute(0), 37);
    x = Given.night(text + "order a x 5 by 500;order b x 5 by 500;order a x 11 by 502;", 0);
    Check.due("one order of a is never ready", x.failedShops(), 1);
    Check.due("a is missed", x.vanOf(0), NONE);
    Check.due("a is missed: no arrival", x.arrivalMinute(0), NONE);
    Check.due("b is served", x.vanOf(1), 0);
    Check.due("b is served when its bread is ready", x.arrivalMinute(1), 17 + 20);
    Check.due("the other van stays", x.departureMinute(1), NONE);
    x = Given.night(text.replace("van 99;van 99;", "van 99;") + "order a x 10 by 500;order b x 10 by 501;", 0);
    Check.due("one van waits for both", x.departureMinute(0), 27);
  }

  /** The best plan: the fewest late shops, then the least minutes, then the smallest sequence of vans. */
  private static void best() {
    for (int between = 9; between <= 11; between++) {
      String streets = "street home b 10;street a b " + between;
      plan("one van takes " + (10 + between) + " minutes, two take 20",
          Given.night(star("van 99;van 99;", 900, 900) .replace("street home b 20", streets), 0), 0, 0, between == 11
          ? 1 : 0);
    }
    plan("fewer late shops count more than minutes", Given.night(star("van 99;van 99;", 22,
        30).replace("street home b 20", "street a b 9"), 0), 1, 0, 0);
    plan("one late shop less", Given.night(star("van 99;van 99;", 22, 31).replace("street home b 20", "street a b 9"),
        0), 0, 0, 0);
    plan("the second van is needed in time", Given.night(star("van 99;van 99;", 22, 32, 900), 0), 0, 0, 1, 0);
    plan("the first van is too small", Given.night(star("van 9;van 99;", 900), 0), 0, 1);
    plan("three alike vans, three shops", Given.night(star("van 10;van 10;van 10;", 900, 900, 900), 0), 0, 0, 1, 2);
    String seven = star("van 20;van 20;van 30;").replace("shop a;shop b;shop c;", Given.times(7, "shop #;"))
        .replaceAll("street home [abc] \\d+;", "") + Given.times(7, "street home # 3;order # x 10 by 900;");
    plan("seven shops, three full vans", Given.night(seven, 0), 0, 0, 0, 1, 1, 2, 2, 2);
    plan("the last van is needed by the last shop", Given.night(seven.replace("van 30", "van 39")
        .replace("order g x 10", "order g x 21"), 0), NONE, NONE, NONE);
    plan("the last shop has more than the others", Given.night(seven.replace("van 30", "van 41")
        .replace("order g x 10", "order g x 21"), 0), 0, 0, 0, 1, 1, 2, 2, 2);
    plan("late in any plan, then the least minutes", Given.night(star("van 99;van 99;", 0, 0, 0), 0), 3, 0, 0, 1);
  }

  /** An order is stale if the van arrives more than keep minutes after a loaf of it was taken out. */
  private static void stale() {
    for (int keep : new int[] {10, 11}) {
      String text = star("van 99;", 900).replace("keep 100", "keep " + keep);
      Check.due("on the way for 10 minutes, keeps " + keep, Given.night(text, 0).staleOrders(), 0);
      Check.due("a minute more, keeps " + keep, Given.night(text.replace("home a 10", "home a " + (keep + 1)),
          0).staleOrders(), 1);
      Check.due("as long as it keeps, " + keep, Given.night(text.replace("home a 10", "home a " + keep),
          0).staleOrders(), 0);
    }
    Check.due("keeps one minute", Given.night(star("van 99;", 900).replace("keep 100", "keep 1").replace("home a 10",
        "home a 1"), 0) .staleOrders(), 0);
    Check.due("keeps one minute, arrives after two", Given.night(star("van 99;", 900).replace("keep 100",
        "keep 1").replace("home a 10", "home a 2"), 0).staleOrders(), 1);
    for (int bake : new int[] {110, 111}) {
      String slow = "room 10;mixers 2;bakers 2;cool 0;dough x mix 1 rise 0 shape 1 proof 0 limit 0 bake 1 "
          + "heat 200 yield 5 keep 1440 price 0;dough y mix 120 rise 300 shape 120 proof 155 limit 240 bake " + bake
          + " heat 200 yield 5 keep 1 price 0;" + Given.oven(2, 200, 1) + "shop a;street home a 1;van 10;"
          + "order a x 1 by 5;order a y 1 by 6;";
      BakeryNight x = Given.night(slow, 0);
      Check.due("arrives, baked for " + bake, x.arrivalMinute(0), 1443 + bake - 110);
      Check.due("keeps 1440, baked for " + bake, x.staleOrders(), bake - 110);
    }
    BakeryNight missed = Given.night(star("van 99;", 900, 900).replace("keep 100", "keep 1")
        + Given.dough("y", "1 0 1 0", 0, 5, 210, 5) + "order a y 1 by 900;", 0);
    Check.due("orders of a missed shop are not stale", missed.staleOrders(), 1);
  }

  /** Shops and vans that there are not: the last one and the next. */
  private static void numbers() {
    BakeryNight x = Given.night(star("van 10;van 10;van 10;", 900, 900, 900), 0);
    int[] arrivals = {22, 32, 42};
    for (int i = 0; i < 3; i++) {
      Check.due("van of " + i, x.vanOf(i), i);
      Check.due("arrival at " + i, x.arrivalMinute(i), arrivals[i]);
      Check.due("departure of " + i, x.departureMinute(i), 12);
    }
    for (int wrong : new int[] {-1, 3, 7, 31, 32, 33, -32, Integer.MIN_VALUE, Integer.MAX_VALUE}) {
      Check.due("van of " + wrong, x.vanOf(wrong), NONE);
      Check.due("arrival at " + wrong, x.arrivalMinute(wrong), NONE);
      Check.due("departure of " + wrong, x.departureMinute(wrong), NONE);
    }
    x.cancelOrder(1);
    for (int i = -1; i <= 3; i++) {
      Check.due("no night: van of " + i, x.vanOf(i), NO_NIGHT);
      Check.due("no night: arrival at " + i, x.arrivalMinute(i), NO_NIGHT);
      Check.due("no night: departure of " + i, x.departureMinute(i), NO_NIGHT);
    }
    Check.due("no night: failed shops", x.failedShops(), NO_NIGHT);
    Check.due("no night: stale orders", x.staleOrders(), NO_NIGHT);
    x.simulate(0);
    Check.due("a shop without an order", x.vanOf(1), NONE);
    Check.due("no arrival there", x.arrivalMinute(1), NONE);
    Check.due("the third van has nothing to do", x.departureMinute(2), NONE);
  }

  // ------------------------------------------------------------ the latest start

  /** The greatest minute from 0 to 1439; NONE if there is no such minute; TOO_MANY is checked first. */
  private static void latest() {
    for (int by : new int[] {21, 22, 23, 1438, 1439}) {
      BakeryNight x = Check.bakery(star("van 99;", by));
      Check.due("due at " + by, x.latestStart(), by - 22);
      Check.due("the vital street, due at " + by, x.vitalStreet(), by < 22 ? NONE : 0);
      for (int change = 0; change < 5; change++) {
        Check.due("change " + change + ", due at " + by, x.latestStartWith(change), by - 22);
      }
      Check.due("no night by it", x.failedShops(), NO_NIGHT);
      if (by >= 22) {
        x.simulate(by - 22);
        Check.due("no shop fails from there", x.failedShops(), 0);
        x.simulate(by - 21);
        Check.due("but from a minute later", x.failedShops(), 1);
        Check.due("the latest start is the same", x.latestStart(), by - 22);
        Check.due("the night is kept", x.stageMinute(0, 0), by - 21);
      }
    }
    for (int by : new int[] {0, 20}) Check.due("due at " + by, Check.bakery(star("van 99;", by)).latestStart(), NONE);
    Check.due("nothing ordered", Check.bakery(star("van 99;")).latestStart(), 1439);
    Check.due("nothing ordered, no vans", Check.bakery(star("")).latestStart(), 1439);
    Check.due("an empty bakery", new BakeryNight().latestStart(), 1439);
    Check.due("no open street matters then", Check.bakery(star("van 99;")).vitalStreet(), NONE);
    BakeryNight x = Check.bakery(star("van 99;", 4).replace("bake 10", "bake 1").replace("home a 10", "home a 1"));
    Check.due("the shortest night", x.latestStart(), 0);
    x.moveOrder(0, 1439);
    Check.due("the greatest latest start with an order", x.latestStart(), 1435);
    x.moveOrder(0, 3);
    Check.due("a minute too early", x.latestStart(), NONE);
  }

  /** With one thing changed: a fifth mixer or baker, 41 degrees, a seventh shelf, a van without a limit. */
  private static void changed() {
    String rest = "cool 0;" + Given.oven(6, 200, 1) + "shop a;street home a 10;van 500;";
    BakeryNight x = Check.bakery("mixers 4;bakers 1;" + Given.dough("x", "50 0 1 0", 99, 10, 200, 5) + rest
        + "order a x 25 by 900;");
    Check.due("five batches, four mixers", x.latestStart(), 900 - 100 - 21);
    Check.due("five batches, a fifth mixer", x.latestStartWith(0), 900 - 50 - 5 - 10 - 10);
    Check.due("a second baker does not help", x.latestStartWith(1), 900 - 100 - 21);
    x = Check.bakery("mixers 4;bakers 4;" + Given.dough("x", "1 3 50 0", 99, 10, 200, 5) + rest
        + "order a x 25 by 900;");
    Check.due("five batches, four bakers", x.latestStart(), 900 - 4 - 100 - 20);
    Check.due("five batches, a fifth baker", x.latestStartWith(1), 900 - 5 - 50 - 20);
    x = Check.bakery("room 40;" + Given.dough("x", "1 205 1 205", 99, 10, 200, 5) + rest + "order a x 5 by 900;");
    Check.due("at 40 degrees", x.latestStart(), 900 - 2 - 2 * 123 - 20);
    Check.due("at 41 degrees", x.latestStartWith(2), 900 - 2 - 2 * 120 - 20);
    Check.due("still at 40 degrees", x.risingMinutes(0, false), 123);
    Check.due("41 degrees cannot be set", x.setRoom(41), NONE);
    x = Check.bakery("mixers 4;bakers 4;" + Given.dough("x", "1 0 1 9", 99, 30, 200, 5) + rest
        + "order a x 35 by 900;");
    Check.due("seven batches, six shelves", x.latestStart(), 900 - 11 - 60 - 10);
    Check.due("seven batches, a seventh shelf", x.latestStartWith(3), 900 - 12 - 30 - 10);
    x = Check.bakery(rest.replace("van 500", "van 1;van 2000").replace("cool 0;", "cool 0;"
        + Given.dough("x", "1 0 1 0", 240, 10, 200, 200)) + "order a x 200 by 900;".repeat(11));
    Check.due("2200 loaves in a van of 2000", x.latestStart(), NONE);
    Check.due("the first van can carry any number", x.latestStartWith(4) > 0, true);
    Check.due("nothing is changed", x.latestStart(), NONE);
    Check.due("nothing can be undone", x.undo(), NONE);
    x = Check.bakery(star("van 9;van 9;", 900, 900));
    Check.due("only the first van, for both shops", x.latestStartWith(4), 900 - 12 - 40);
    x = Check.bakery(star("", 900));
    for (int change = 0; change < 5; change++) Check.due("without a van, change " + change, x.latestStartWith(change),
        NONE);
    Check.due("without a van and an order", Check.bakery(star("")).latestStartWith(4), 1439);
    for (int wrong : new int[] {-1, 5, Integer.MIN_VALUE, Integer.MAX_VALUE}) {
      Check.due("no such change: " + wrong, Check.bakery(star("van 99;", 900)).latestStartWith(wrong), NONE);
    }
  }

  /** The open street without which the latest start is earliest, the smallest on a tie; NONE if there is none. */
  private static void vital() {
    String text = star("van 99;", 900) + "street home a ";
    Check.due("another street as short", Check.bakery(text + "10;").vitalStreet(), NONE);
    Check.due("another street, a minute longer", Check.bakery(text + "11;").vitalStreet(), 0);
    Check.due("another street, a minute shorter", Check.bakery(text + "9;").vitalStreet(), 3);
    BakeryNight x = Check.bakery(text + "11;");
    x.closeStreet(0, true);
    Check.due("the only open one", x.vitalStreet(), 3);
    x.closeStreet(3, true);
    Check.due("no latest start", x.vitalStreet(), NONE);
    x.closeStreet(0, false);
    Check.due("the only open one again", x.vitalStreet(), 0);
    Check.due("the distance is kept", x.distance(NONE, 0), 10);
    x = Check.bakery(star("van 99;van 99;", 100, 60) + "street home a 12;street home b 25;");
    Check.due("one makes it earlier by 2, the other by 5", x.vitalStreet(), 1);
    x.closeStreet(4, true);
    Check.due("none at all is earlier than any start", x.vitalStreet(), 1);
    x.closeStreet(3, true);
    Check.due("on a tie the smallest number", x.vitalStreet(), 0);
    x = Check.bakery(star("van 99;", 22) + "street home a 11;");
    Check.due("latest start 0", x.latestStart(), 0);
    Check.due("none is earlier than 0", x.vitalStreet(), 0);
    x = Check.bakery("shop a;" + "street home a 5;".repeat(20) + star("van 99;", 900).replace("shop a;shop b;shop c;",
        "").replaceAll( "street home [abc] \\d+;", ""));
    Check.due("twenty streets", x.vitalStreet(), NONE);
    for (int i = 0; i < 19; i++) x.closeStreet(i, true);
    Check.due("the last street", x.vitalStreet(), 19);
    Check.due("no streets", Check.bakery("shop a;").vitalStreet(), NONE);
    Check.due("too many batches", Given.crowded().vitalStreet(), TOO_MANY);
  }

  /** An object is used for at most 512 calls: the last of them answers as the first. */
  private static void calls() {
    BakeryNight x = Check.bakery(Given.FULL);
    int done = (Given.FULL.length() + 19) / 20 + 2;
    int vital = x.vitalStreet();
    int latest = x.latestStart();
    Check.due("a street matters", vital >= 0, true);
    for (done += 2; done + 4 <= 512; done += 4) {
      Check.due("vital street after " + done + " calls", x.vitalStreet(), vital);
      Check.due("latest start after " + done + " calls", x.latestStart(), latest);
      Check.due("a night after " + done + " calls", x.simulate(latest) > latest, true);
      Check.due("failed shops after " + done + " calls", x.failedShops(), 0);
    }
  }

  public static void main(String[] args) {
    distances();
    sets();
    routes();
    late();
    loads();
    reached();
    readiness();
    best();
    stale();
    numbers();
    latest();
    changed();
    vital();
    calls();
    Check.end("PlanEdgeTest");
  }
}
