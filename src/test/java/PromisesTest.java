/** A test for each promise, with the edges that the document names and wrong inputs; and the document's two examples. */
public final class PromisesTest {
  private static final int NONE = BakeryNight.NONE;
  private static final int NO_NIGHT = BakeryNight.NO_NIGHT;
  private static final int TOO_MANY = BakeryNight.TOO_MANY;

  private static final String RYE = "dough rye mix 10 rise 20 shape 5 proof 15 limit 30 bake 25 heat 220 yield 10 keep 120 price 300;";
  private static final String TOWN = "shop a;shop b;street home a 10;street a b 5;street home b 20;";
  private static final String ORDERS = "order a rye 10 by 200;order b rye 5 by 210;";
  /** One oven with one shelf, two batches: 0 bakes from 50 to 75, 1 waits from 60 and bakes from 75 to 100. */
  private static final String SMALL = "room 24;cool 10;" + RYE + "oven shelves 1 heat 220 rate 10;" + TOWN + "van 100;" + ORDERS;

  private PromisesTest() { }

  private static String dough(String name, String times, int limit, int bake, int heat, int yield) {
    String[] t = times.split(" ");
    return "dough " + name + " mix " + t[0] + " rise " + t[1] + " shape " + t[2] + " proof " + t[3] + " limit " + limit
        + " bake " + bake + " heat " + heat + " yield " + yield + " keep 100 price 100;";
  }

  private static String oven(int shelves, int heat, int rate) {
    return "oven shelves " + shelves + " heat " + heat + " rate " + rate + ";";
  }

  private static BakeryNight night(String text, int start) {
    BakeryNight x = Check.bakery(text);
    x.simulate(start);
    return x;
  }

  private static void stages(String what, BakeryNight x, int batch, int... want) {
    for (int stage = 0; stage < want.length; stage++) {
      final int s = stage;
      Check.due(what + ": stage " + stage + " of batch " + batch, Check.answerOf(() -> x.stageMinute(batch, s)), want[stage]);
    }
  }

  private static void fault(String text, int code, int offset) {
    BakeryNight x = new BakeryNight();
    Check.due("parseBakery() of " + text, Check.parse(x, text), NONE);
    Check.due("errorCode() of " + text, x.errorCode(), code);
    Check.due("errorOffset() of " + text, x.errorOffset(), offset);
  }

  private static void fine(String text, int statements) {
    BakeryNight x = new BakeryNight();
    Check.due("parseBakery() of " + text, Check.parse(x, text), statements);
    Check.due("errorCode() of " + text, x.errorCode(), 0);
    Check.due("errorOffset() of " + text, x.errorOffset(), NONE);
  }

  private static String times(int count, String text) {
    StringBuilder t = new StringBuilder();
    for (int i = 0; i < count; i++) t.append(text.replace("#", String.valueOf((char) ('a' + i))));
    return t.toString();
  }

  // ------------------------------------------------------------ the examples

  private static void examples() {
    BakeryNight x = new BakeryNight();
    int[][] feeds = {{1870030190, 544434277, 1819698547, 540090472, 1700885536},
        {842149920, 1918989413, 540094523, 1986096672, 892353395},
        {1752133664, 1631286132, 1919247732, 543715181, 1696620832},
        {825244516, 1869965160, 544373093, 544041336, 540094496},
        {1919513445, 540160032, 1936220528, 1696609568, 1886547823},
        {1713385781, 543975789, 1769218099, 807428705, 1801789490},
        {891316325, 1635000370, 842014841, 1768254564, 540094496},
        {1801807216, 540095024, 544240233, 1667571763, 808467311},
        {1919182194, 543236210, 2036670513, 807428729, 540160048},
        {989855744, 0, 0, 0, 0}};
    for (int i = 0; i < feeds.length; i++) {
      int[] f = feeds[i];
      Check.due("example 1: feed " + i, x.feed(f[0], f[1], f[2], f[3], f[4]), 20 * (i + 1));
    }
    Check.due("example 1: truncate(181)", x.truncate(181), true);
    Check.due("example 1: parseBakery()", x.parseBakery(), 6);
    Check.due("example 1: simulate(0)", x.simulate(0), 75);
    Check.due("example 1: readyMinute(0)", x.readyMinute(0), 105);
    Check.due("example 1: arrivalMinute(0)", x.arrivalMinute(0), 115);
    Check.due("example 1: latestStart()", x.latestStart(), 85);
    BakeryNight y = new BakeryNight();
    Check.due("example 2: feed", y.feed(1936224112, 543243123, 1953654117, 1948279072, 1627389952), 20);
    Check.due("example 2: truncate(17)", y.truncate(17), true);
    Check.due("example 2: parseBakery()", y.parseBakery(), -1);
    Check.due("example 2: errorCode()", y.errorCode(), 3);
    Check.due("example 2: errorOffset()", y.errorOffset(), 16);
  }

  // ------------------------------------------------------------ promises 1 to 6

  private static void promise1() {
    Check.due("1: NONE", BakeryNight.NONE, -1);
    Check.due("1: NO_NIGHT", BakeryNight.NO_NIGHT, -2);
    Check.due("1: TOO_MANY", BakeryNight.TOO_MANY, -3);
    BakeryNight x = new BakeryNight();
    Check.due("1: no orders", x.orderCount(), 0);
    Check.due("1: no doughs", x.orderedLoaves(0), NONE);
    Check.due("1: no ovens", x.breakOven(0, true), false);
    Check.due("1: no shops", x.distance(NONE, 0), NONE);
    Check.due("1: no streets", x.closeStreet(0, true), false);
    Check.due("1: empty buffer", x.truncate(1), false);
    Check.due("1: first feed", x.feed(0, 0, 0, 0, 0), 20);
    Check.due("1: no batches", x.batchCount(), 0);
    Check.due("1: no night", x.failedShops(), NO_NIGHT);
    Check.due("1: the usual room", x.setRoom(30), 24);
    Check.due("1: an empty night", x.simulate(7), 7);
    Check.due("1: a plan without shops and vans", x.failedShops(), 0);
    Check.due("1: no vans", x.departureMinute(0), NONE);
  }

  private static void promise2() {
    BakeryNight x = new BakeryNight();
    for (int i = 1; i <= 80; i++) {
      Check.due("2: feed", x.feed(0x20202020, 0x20202020, 0x20202020, 0x20202020, 0x20202020), 20 * i);
    }
    Check.due("2: feed beyond 1600", x.feed(0x3b3b3b3b, 0, 0, 0, 0), NONE);
    Check.due("2: no change by it", x.truncate(1601), false);
    Check.due("2: still 1600", x.truncate(1600), true);
    Check.due("2: all blanks", x.parseBakery(), 0);
    Check.due("2: from the start again", x.feed(0x726f6f6d, 0x2031303b, 0xff414141, 0x41414141, 0x41414141), 20);
    Check.due("2: shortened", x.truncate(8), true);
    Check.due("2: appends to the rest", x.feed(0x636f6f6c, 0x20352035, 0, 0, 0), 28);
    Check.due("2: parse", x.parseBakery(), NONE);
    Check.due("2: the bytes in order", x.errorOffset(), 15);
    x.feed(0x726f6f6d, 0x2031303b, 0x20202020, 0x20202020, 0x20202080);
    x.parseBakery();
    Check.due("2: the last byte, above 127", x.errorOffset(), 19);
    Check.due("2: is not valid", x.errorCode(), 1);
    x.feed(0x726f6f6d, 0x2031303b, 0x20202020, 0x20202020, 0x636f6f6c);
    Check.due("2: goes on after 1580", x.feed(0x20363b20, 0x20202020, 0x20202020, 0x20202020, 0x2020200a), 40);
    Check.due("2: both bits", x.parseBakery(), 2);
    x.feed(0, 0, 0, 0, 0);
    for (int i = 0; i < 78; i++) x.feed(0, 0, 0, 0, 0);
    x.truncate(1579);
    Check.due("2: 1599", x.feed(0, 0, 0, 0, 0), 1599);
    Check.due("2: would be 1619", x.feed(0, 0, 0, 0, 0), NONE);
    x.truncate(1580);
    Check.due("2: exactly 1600", x.feed(0, 0, 0, 0, 0), 1600);
  }

  private static void promise3() {
    BakeryNight x = new BakeryNight();
    Check.due("3: nothing to nothing", x.truncate(0), true);
    Check.due("3: longer than empty", x.truncate(1), false);
    Check.feed(x, "room 20;cool 5;");
    Check.due("3: negative", x.truncate(-1), false);
    Check.due("3: least", x.truncate(Integer.MIN_VALUE), false);
    Check.due("3: longer", x.truncate(16), false);
    Check.due("3: most", x.truncate(Integer.MAX_VALUE), false);
    Check.due("3: the same", x.truncate(15), true);
    Check.due("3: shorter", x.truncate(8), true);
    Check.due("3: no way back", x.truncate(9), false);
    Check.due("3: the first bytes are left", x.parseBakery(), 1);
    Check.due("3: room 20", x.setRoom(20), 20);
  }

  private static void promise4() {
    BakeryNight x = new BakeryNight();
    Check.due("4: an empty text", x.parseBakery(), 0);
    Check.due("4: statements", Check.parse(x, SMALL), 12);
    Check.due("4: the buffer is empty", x.truncate(1), false);
    x.breakOven(0, true);
    x.closeStreet(0, true);
    x.setRoom(40);
    x.simulate(0);
    Check.due("4: a fault", Check.parse(x, "room 12;shop q;order"), NONE);
    Check.due("4: the buffer is empty after a fault", x.truncate(1), false);
    Check.due("4: the night is kept", x.spoiledCount(), 2);
    Check.due("4: the orders are kept", x.orderCount(), 2);
    Check.due("4: the streets are kept", x.distance(NONE, 0), 25);
    Check.due("4: the shops are kept", x.distance(NONE, 1), 20);
    Check.due("4: the changes are kept", x.undo(), 2);
    Check.due("4: the room is kept", x.setRoom(24), 24);
    x.simulate(0);
    Check.due("4: the same again", Check.parse(x, SMALL), 12);
    Check.due("4: no night", x.spoiledCount(), NO_NIGHT);
    Check.due("4: no change to undo", x.undo(), NONE);
    Check.due("4: no closed street", x.distance(NONE, 0), 10);
    x.simulate(0);
    Check.due("4: no broken oven", x.spoiledCount(), 0);
    x.cancelOrder(0);
    Check.parse(x, SMALL);
    Check.due("4: no cancelled order", x.orderedLoaves(0), 15);
    x.setRoom(33);
    Check.due("4: a smaller bakery", Check.parse(x, "shop z;street z home 3;"), 2);
    Check.due("4: the usual room", x.setRoom(20), 24);
    Check.due("4: no dough", x.orderedLoaves(0), NONE);
    Check.due("4: one shop", x.distance(NONE, 1), NONE);
    Check.due("4: one street", x.distance(NONE, 0), 3);
    Check.due("4: no oven", x.breakOven(0, true), false);
    Check.due("4: no order", x.orderCount(), 0);
    x.simulate(0);
    Check.due("4: no van", x.departureMinute(0), NONE);
    settings();
    again();
  }

  /** Nothing of the bakeries before comes through, however often a text is parsed. */
  private static void again() {
    String all = "mixers 2;bakers 2;" + SMALL;
    BakeryNight x = new BakeryNight();
    for (int i = 0; i < 5; i++) {
      Check.due("4: all settings again", Check.parse(x, all), 14);
      Check.due("4: cancelled before", x.orderedLoaves(0), 15);
      Check.due("4: closed before", x.distance(NONE, 0), 10);
      x.simulate(0);
      Check.due("4: broken before", x.spoiledCount(), 0);
      Check.due("4: one van", x.departureMinute(1), NONE);
      x.breakOven(0, true);
      x.closeStreet(0, true);
      x.cancelOrder(1);
      Check.due("4: a fault after all settings", Check.parse(x, all + "mixers 1;"), NONE);
      Check.due("4: still closed", x.distance(NONE, 0), 25);
    }
    for (int i = 0; i < 3; i++) {
      Check.parse(x, "shop a;shop b;");
      Check.due("4: no street", x.closeStreet(0, false), false);
      Check.due("4: no way", x.distance(NONE, 0), NONE);
      x.simulate(0);
      Check.due("4: no van any more", x.departureMinute(0), NONE);
      Check.due("4: no oven any more", x.changingMinutes(0), NONE);
      Check.due("4: no dough any more", x.surplusLoaves(0), NONE);
    }
  }

  private static void settings() {
    String one = dough("x", "1 0 1 0", 99, 10, 200, 5);
    String rest = oven(6, 200, 1) + "shop a;street home a 1;van 99;order a x 20 by 900;";
    BakeryNight x = night("mixers 3;bakers 2;cool 0;" + one + rest, 0);
    Check.due("4: three mixers", x.busy(0, 0), 3);
    Check.due("4: two bakers", x.busy(1, 1), 2);
    Check.due("4: cool 0", x.readyMinute(0), 13);
    x = night(one + rest, 0);
    Check.due("4: one mixer", x.busy(0, 0), 1);
    Check.due("4: one baker", x.busy(1, 1), 1);
    Check.due("4: cool 30", x.readyMinute(0), 45);
    x = night("mixers 4;bakers 4;cool 120;" + one + rest, 0);
    Check.due("4: four mixers", x.busy(0, 0), 4);
    Check.due("4: four bakers", x.busy(1, 1), 4);
    Check.due("4: cool 120", x.readyMinute(0), 132);
  }

  private static void promise5and6() {
    BakeryNight x = new BakeryNight();
    Check.due("5: no call yet", x.errorCode(), 0);
    Check.due("6: no call yet", x.errorOffset(), NONE);
    Check.parse(x, "x");
    Check.due("5: a fault", x.errorCode(), 1);
    Check.due("6: a fault", x.errorOffset(), 0);
    x.setRoom(20);
    x.feed(0, 0, 0, 0, 0);
    x.truncate(0);
    Check.due("5: of the latest parse", x.errorCode(), 1);
    Check.parse(x, "");
    Check.due("5: none any more", x.errorCode(), 0);
    Check.due("6: none any more", x.errorOffset(), NONE);
    misplaced();
    outOfRange();
    names();
    tooMany();
  }

  private static void misplaced() {
    fault(";", 1, 0);
    fault("room", 1, 4);
    fault("room ", 1, 5);
    fault("room 24", 1, 7);
    fault("room 24 \n ", 1, 10);
    fault("room 24 24;", 1, 8);
    fault("room;", 1, 4);
    fault("room 024;room 9", 3, 9);
    fault("rooms 24;", 1, 0);
    fault("soom 24;", 1, 0);
    fault("roon 24;", 1, 0);
    fault("roo 24;", 1, 0);
    fault("room 02424;", 1, 5);
    fault("room 99999;", 1, 5);
    fault("room 20\t;", 1, 7);
    fault("Room 24;", 1, 0);
    fault("room -4;", 1, 5);
    fault("mix 3;", 1, 0);
    fault("home;", 1, 0);
    fault("5;", 1, 0);
    fault("room 24;;", 1, 8);
    fault("shop 7;", 1, 5);
    fault("shop order;", 1, 5);
    fault("shop home;", 1, 5);
    fault("shop by;", 1, 5);
    fault("shop abcdefghi;", 1, 5);
    fault("shop a b;", 1, 7);
    fault("shop a{", 1, 6);
    fault("shop a`", 1, 6);
    fault("street 1", 1, 7);
    fault("street van home 1;", 1, 7);
    fault("shop a;street home order 5;", 1, 19);
    fault("shop a;street home a;", 1, 20);
    fault("dough a rise 5", 1, 8);
    fault("dough a mix 5 mix 5", 1, 14);
    fault("oven heat 20", 1, 5);
    fault("oven shelves 2 heat 20 heat", 1, 23);
    fault(RYE + "shop a;order a rye 5 at 9", 1, RYE.length() + 21);
    fault(RYE + "shop a;order a rye by 9", 1, RYE.length() + 19);
    fault(RYE + "shop a;order home rye 9", 1, RYE.length() + 13);
    BakeryNight x = new BakeryNight();
    Check.feed(x, "cool 5555;");
    x.truncate(6);
    Check.due("5: a shortened number", x.parseBakery(), NONE);
    Check.due("6: its end is the end of the text", x.errorOffset(), 6);
    Check.feed(x, "cool 5;shop home");
    x.truncate(14);
    Check.due("5: a shortened word", x.parseBakery(), NONE);
    Check.due("6: it is a name", x.errorOffset(), 14);
    fine("room24;cool0;", 2);
    fine(" room\n24 ;\n", 1);
    fine("shop abcdefgh;", 1);
    fine("shop rooms;shop mi;shop mixe;", 3);
    fine("room 0024;", 1);
  }

  private static void range(String before, int low, int high, String after) {
    int statements = before.split(";", -1).length + after.split(";", -1).length - 2;
    fine(before + low + after, statements);
    fine(before + high + after, statements);
    if (low > 0) fault(before + (low - 1) + after, 2, before.length());
    fault(before + (high + 1) + after, 2, before.length());
  }

  private static void outOfRange() {
    range("room ", 10, 40, ";");
    range("cool ", 0, 120, ";");
    range("mixers ", 1, 4, ";");
    range("bakers ", 1, 4, ";");
    range("oven shelves ", 1, 6, " heat 20 rate 1;");
    range("oven shelves 1 heat ", 20, 300, " rate 1;");
    range("oven shelves 1 heat 20 rate ", 1, 50, ";");
    range("shop a;street a home ", 1, 120, ";");
    range("van ", 1, 2000, ";");
    range(RYE + "shop a;order a rye ", 1, 200, " by 5;");
    range(RYE + "shop a;order a rye 5 by ", 0, 1439, ";");
    String[] words = "mix rise shape proof limit bake heat yield keep price".split(" ");
    int[] low = {1, 0, 1, 0, 0, 1, 100, 5, 1, 0};
    int[] high = {120, 300, 120, 300, 240, 120, 300, 200, 1440, 999};
    int[] usual = {10, 20, 5, 15, 30, 25, 220, 10, 120, 300};
    for (int i = 0; i < 10; i++) {
      StringBuilder before = new StringBuilder("dough q");
      StringBuilder after = new StringBuilder();
      for (int k = 0; k < i; k++) before.append(' ').append(words[k]).append(' ').append(usual[k]);
      before.append(' ').append(words[i]).append(' ');
      for (int k = i + 1; k < 10; k++) after.append(' ').append(words[k]).append(' ').append(usual[k]);
      range(before.toString(), low[i], high[i], after + ";");
    }
    fault("room 9", 2, 5);
    fault("shop a;street a home 0 ; room 5;", 2, 21);
  }

  private static void names() {
    fault("shop a;shop a;", 3, 12);
    fault(RYE + RYE, 3, RYE.length() + 6);
    fine("shop ab;shop ba;shop a;shop b;shop aa;shop aaaaaaaa;shop zzzzzzzz;", 7);
    fine("shop ac;shop bb;shop ca;shop abb;shop bab;shop bba;shop z;", 7);
    fault("shop zzzzzzzy;shop zzzzzzzz;shop zzzzzzzy;", 3, 33);
    fine(RYE + "shop rye;order rye rye 5 by 5;", 3);
    fault("shop a;street a a 5;", 3, 16);
    fault("street home home 5;", 3, 12);
    fault("room 20;cool 5;room 20;", 3, 15);
    fault("cool 20;cool", 3, 8);
    fault("mixers 2;mixers 1;", 3, 9);
    fault("bakers 2;bakers 1;", 3, 9);
    fault("street home a 5;shop a;", 4, 12);
    fault("street a home 5;shop a;", 4, 7);
    fault(RYE + "shop a;street rye a 5;", 4, RYE.length() + 14);
    fault(RYE + "shop a;order rye rye 5 by 5;", 4, RYE.length() + 13);
    fault(RYE + "shop a;order a a 5 by 5;", 4, RYE.length() + 15);
    fault("shop a;order a rye 5 by 5;" + RYE, 4, 15);
    fault("shop ab;street a home 5;", 4, 15);
    fault("shop abcdefgh;street abcdefgi home 5;", 4, 21);
    fault("shop abcdefgh;street abcdefghi home 5;", 1, 21);
  }

  private static void tooMany() {
    String small = times(6, "dough # mix 1 rise 0 shape 1 proof 0 limit 0 bake 1 heat 100 yield 5 keep 1 price 0;");
    fine(small, 6);
    fault(small + "dough a", 5, small.length());
    fine(times(4, "oven shelves 1 heat 20 rate 1;"), 4);
    fault(times(4, "oven shelves 1 heat 20 rate 1;") + "oven", 5, 120);
    fine(times(7, "shop #;"), 7);
    fault(times(7, "shop #;") + "shop a;", 5, 49);
    fine("shop a;" + times(20, "street home a 5;"), 21);
    fault("shop a;" + times(20, "street home a 5;") + "street", 5, 327);
    fine(times(3, "van 5;"), 3);
    fault(times(3, "van 5;") + " van 0;", 5, 19);
    fine(RYE + "shop a;" + times(24, "order a rye 5 by 5;"), 26);
    fault(RYE + "shop a;" + times(24, "order a rye 5 by 5;") + "order", 5, RYE.length() + 7 + 24 * 19);
  }

  // ------------------------------------------------------------ promises 7 to 13

  private static void promise7to9() {
    BakeryNight x = Check.bakery(SMALL + dough("bun", "1 0 1 0", 5, 5, 200, 5));
    Check.due("7: orders", x.orderCount(), 2);
    Check.due("8: loaves", x.orderedLoaves(0), 15);
    Check.due("8: none ordered", x.orderedLoaves(1), 0);
    Check.due("8: no such dough", x.orderedLoaves(2), NONE);
    Check.due("8: negative", x.orderedLoaves(-1), NONE);
    Check.due("9: ten a batch", x.batchCount(), 2);
    x.addOrder(0, 0, 5, 100);
    Check.due("9: exactly two batches", x.batchCount(), 2);
    x.addOrder(0, 1, 1, 100);
    Check.due("9: one of another dough", x.batchCount(), 3);
    Check.due("7: two more", x.orderCount(), 4);
    x.cancelOrder(0);
    Check.due("7: cancelled ones included", x.orderCount(), 4);
    Check.due("8: cancelled ones not included", x.orderedLoaves(0), 10);
    Check.due("9: cancelled ones not included", x.batchCount(), 2);
    x.addOrder(0, 1, 200, 100);
    x.addOrder(0, 1, 94, 100);
    Check.due("9: sixty", x.batchCount(), 60);
    x.addOrder(0, 1, 1, 100);
    Check.due("9: more than sixty", x.batchCount(), TOO_MANY);
    x.cancelOrder(3);
    Check.due("9: sixty again", x.batchCount(), 60);
  }

  private static void promise10() {
    BakeryNight x = Check.bakery("room 24;" + RYE + dough("bun", "1 0 1 300", 5, 5, 200, 5));
    Check.due("10: rise at 24", x.risingMinutes(0, false), 20);
    Check.due("10: proof at 24", x.risingMinutes(0, true), 15);
    Check.due("10: nothing", x.risingMinutes(1, false), 0);
    Check.due("10: no such dough", x.risingMinutes(2, false), NONE);
    Check.due("10: negative", x.risingMinutes(-1, true), NONE);
    x.setRoom(23);
    Check.due("10: 480 / 23 rounded up", x.risingMinutes(0, false), 21);
    Check.due("10: 360 / 23 rounded up", x.risingMinutes(0, true), 16);
    x.setRoom(40);
    Check.due("10: 480 / 40", x.risingMinutes(0, false), 12);
    Check.due("10: 360 / 40", x.risingMinutes(0, true), 9);
    x.setRoom(10);
    Check.due("10: 7200 / 10", x.risingMinutes(1, true), 720);
  }

  private static void promise11() {
    BakeryNight x = Check.bakery("shop a;shop b;shop c;shop d;street home a 10;street a b 5;street b home 20;street home a 12;"
        + "street c d 1;");
    Check.due("11: direct", x.distance(NONE, 0), 10);
    Check.due("11: back", x.distance(0, NONE), 10);
    Check.due("11: by way of a", x.distance(NONE, 1), 15);
    Check.due("11: between shops", x.distance(1, 0), 5);
    Check.due("11: the same place", x.distance(2, 2), 0);
    Check.due("11: home", x.distance(NONE, NONE), 0);
    Check.due("11: no way", x.distance(NONE, 2), NONE);
    Check.due("11: no way between shops", x.distance(3, 1), NONE);
    Check.due("11: apart from the rest", x.distance(3, 2), 1);
    Check.due("11: no such shop", x.distance(4, 4), NONE);
    Check.due("11: no such shop to go to", x.distance(0, 4), NONE);
    Check.due("11: 7 is no place", x.distance(7, 7), NONE);
    Check.due("11: -2", x.distance(-2, 0), NONE);
    x.closeStreet(0, true);
    Check.due("11: the other street", x.distance(NONE, 0), 12);
    x.closeStreet(3, true);
    Check.due("11: the long way", x.distance(NONE, 0), 25);
    x.closeStreet(2, true);
    Check.due("11: all closed", x.distance(NONE, 0), NONE);
    x.closeStreet(0, false);
    Check.due("11: opened", x.distance(NONE, 1), 15);
  }

  private static void promise12and13() {
    BakeryNight x = Check.bakery("shop a;shop b;shop c;shop d;street home a 5;street home b 5;street a b 5;street b c 5;street a c 5;");
    Check.due("12: the empty set", x.routeMinutes(0), 0);
    Check.due("12: one", x.routeMinutes(4), 10);
    Check.due("12: three", x.routeMinutes(7), 15);
    Check.due("12: not reached", x.routeMinutes(8), NONE);
    Check.due("12: one of them not reached", x.routeMinutes(9), NONE);
    Check.due("12: no such shop", x.routeMinutes(16), NONE);
    Check.due("12: negative", x.routeMinutes(-1), NONE);
    Check.due("12: the sign alone", x.routeMinutes(Integer.MIN_VALUE), NONE);
    Check.due("13: first on a tie", x.routeStop(7, 0), 0);
    Check.due("13: second on a tie", x.routeStop(7, 1), 1);
    Check.due("13: third", x.routeStop(7, 2), 2);
    Check.due("13: no fourth", x.routeStop(7, 3), NONE);
    Check.due("13: negative", x.routeStop(7, -1), NONE);
    Check.due("13: far", x.routeStop(7, Integer.MAX_VALUE), NONE);
    Check.due("13: empty", x.routeStop(0, 0), NONE);
    Check.due("13: not reached", x.routeStop(9, 0), NONE);
    Check.due("13: no such shop", x.routeStop(17, 0), NONE);
    BakeryNight y = Check.bakery("shop a;shop b;shop c;street home c 1;street c a 2;street a b 9;street c b 4;");
    Check.due("12: least sum", y.routeMinutes(7), 9);
    Check.due("13: a first on a tie, though by way of c", y.routeStop(7, 0), 0);
    Check.due("13: then c", y.routeStop(7, 1), 2);
    Check.due("13: then b", y.routeStop(7, 2), 1);
    Check.due("12: the route does not return", y.routeMinutes(3), 9);
    BakeryNight w = Check.bakery("shop a;shop b;shop c;street home c 1;street c a 2;street home a 2;street a b 2;");
    Check.due("12: the nearest first", w.routeMinutes(7), 5);
    Check.due("13: the nearest first", w.routeStop(7, 0), 2);
    Check.due("13: then a", w.routeStop(7, 1), 0);
    Check.due("13: then b", w.routeStop(7, 2), 1);
    BakeryNight z = Check.bakery(times(7, "shop #;") + times(7, "street home # 2;"));
    Check.due("12: seven", z.routeMinutes(127), 26);
    Check.due("12: an eighth bit", z.routeMinutes(128), NONE);
    Check.due("13: last of seven", z.routeStop(127, 6), 6);
  }

  // ------------------------------------------------------------ promises 14 to 18

  private static void promise14() {
    BakeryNight x = Check.bakery(SMALL);
    Check.due("14: -1", x.simulate(-1), NONE);
    Check.due("14: 1440", x.simulate(1440), NONE);
    Check.due("14: no night by it", x.spoiledCount(), NO_NIGHT);
    Check.due("14: from 0", x.simulate(0), 100);
    stages("14", x, 0, 0, 10, 30, 35, 50, 75);
    stages("14", x, 1, 10, 20, 40, 45, 75, 100);
    Check.due("14: from 1439", x.simulate(1439), 1539);
    stages("14: replaced", x, 1, 1449, 1459, 1479, 1484, 1514, 1539);
    Check.due("14: wrong start", x.simulate(2000), NONE);
    Check.due("14: the night is kept", x.busy(0, 1439), 1);
    BakeryNight y = Check.bakery(SMALL);
    for (int i = 0; i < 4; i++) y.addOrder(0, 0, 200, 300);
    Check.due("14: start is looked at first", y.simulate(-1), NONE);
    Check.due("14: too many", y.simulate(0), TOO_MANY);
    Check.due("14: no night by too many", y.spoiledCount(), NO_NIGHT);
    for (int i = 2; i < 5; i++) y.cancelOrder(i);
    Check.due("14: 22 batches, one oven", y.simulate(0) > 0, true);
    y.cancelOrder(0);
    y.cancelOrder(1);
    y.cancelOrder(5);
    Check.due("14: without batches", y.simulate(33), 33);
    limits();
    heats();
    sequences();
  }

  private static void limits() {
    String begin = "mixers 2;bakers 2;";
    String rest = oven(1, 200, 1) + "shop a;street home a 1;van 99;order a x 10 by 900;";
    BakeryNight x = night(begin + dough("x", "1 0 1 0", 0, 10, 200, 5) + rest, 0);
    stages("14: limit 0, oven free at once", x, 0, 0, 1, 1, 2, 2, 12);
    stages("14: limit 0, spoiled", x, 1, 0, 1, 1, 2, NONE, NONE);
    Check.due("14: limit 0, waited", x.waitingMinutes(2), 1);
    x = night(begin + dough("x", "1 0 1 0", 10, 10, 200, 5) + rest, 0);
    stages("14: limit just kept", x, 1, 0, 1, 1, 2, 12, 22);
    x = night(begin + dough("x", "1 0 1 0", 9, 10, 200, 5) + rest, 0);
    stages("14: limit just passed", x, 1, 0, 1, 1, 2, NONE, NONE);
    Check.due("14: one spoiled", x.spoiledCount(), 1);
    Check.due("14: no longer than the limit", x.waitingMinutes(2), 10);
    x = Check.bakery(dough("x", "1 0 1 0", 9, 10, 200, 5) + "shop a;order a x 5 by 900;");
    Check.due("14: without ovens", x.simulate(5), 17);
  }

  private static void heats() {
    String two = "mixers 4;bakers 4;" + dough("x", "1 0 1 0", 99, 10, 200, 5) + dough("y", "1 0 1 0", 99, 10, 150, 5);
    String orders = "shop a;street home a 1;van 99;order a x 5 by 100;order a y 5 by 100;";
    BakeryNight x = night(two + oven(1, 180, 10) + oven(1, 170, 10) + orders, 0);
    stages("14: nearest heat", x, 0, 0, 1, 1, 2, 4, 14);
    stages("14: the other oven", x, 1, 0, 1, 1, 2, 4, 14);
    Check.due("14: oven of 0", x.ovenOf(0), 0);
    Check.due("14: oven of 1", x.ovenOf(1), 1);
    x = night(two + oven(1, 190, 10) + oven(1, 210, 10) + orders, 0);
    Check.due("14: first oven on a tie", x.ovenOf(0), 0);
    stages("14: heating by 60", x, 1, 0, 1, 1, 2, 8, 18);
    x = night(two + oven(2, 195, 5) + orders, 0);
    stages("14: one oven", x, 0, 0, 1, 1, 2, 3, 13);
    stages("14: one oven, changed when it is empty", x, 1, 0, 1, 1, 2, 23, 33);
    x = night(two + oven(1, 193, 5) + orders, 0);
    stages("14: 7 degrees at 5 a minute", x, 0, 0, 1, 1, 2, 4, 14);
    x = night(two + oven(1, 200, 5) + oven(3, 149, 1) + orders.replace("a x 5", "a x 10"), 0);
    Check.due("14: full oven, the other one is heated in vain", x.changingMinutes(1), 51);
    Check.due("14: x waits for the full one", x.ovenOf(1), 0);
    stages("14: x has it again", x, 1, 0, 1, 1, 2, 12, 22);
    Check.due("14: y has it when it is empty", x.ovenOf(2), 0);
    stages("14: y after its change", x, 2, 0, 1, 1, 2, 32, 42);
    x = night(two + oven(1, 200, 5) + oven(1, 200, 5) + orders.replace("a x 5", "a x 10"), 0);
    Check.due("14: the first one with a free shelf", x.ovenOf(0), 0);
    Check.due("14: the next one with a free shelf", x.ovenOf(1), 1);
    x = night("mixers 4;bakers 4;" + dough("x", "1 0 1 0", 5, 10, 200, 5) + dough("y", "1 0 1 0", 99, 10, 150, 5)
        + oven(1, 20, 10) + orders, 0);
    stages("14: spoiled while an oven is heated for it", x, 0, 0, 1, 1, 2, NONE, NONE);
    stages("14: heated at once for the next one", x, 1, 0, 1, 1, 2, 25, 35);
    Check.due("19: both changes", x.changingMinutes(0), 23);
    BakeryNight y = Check.bakery(two + oven(1, 200, 5) + oven(1, 150, 5) + oven(1, 190, 5) + orders);
    y.breakOven(0, true);
    y.simulate(0);
    Check.due("14: broken ovens are not used", y.ovenOf(0), 2);
    stages("14: 10 degrees", y, 0, 0, 1, 1, 2, 4, 14);
    y.breakOven(2, true);
    y.breakOven(1, true);
    y.simulate(0);
    Check.due("14: all broken", y.spoiledCount(), 2);
  }

  private static void sequences() {
    String text = "mixers 2;" + dough("x", "4 9 3 1", 99, 10, 200, 5) + dough("y", "4 0 3 0", 99, 10, 200, 5)
        + oven(1, 200, 1) + "shop a;street home a 1;van 99;";
    BakeryNight x = night(text + "order a x 5 by 500;order a y 5 by 400;", 0);
    Check.due("14: the earlier due minute first", x.batchDough(0), 1);
    x = night(text + "order a x 5 by 400;order a y 5 by 400;", 0);
    Check.due("14: the smaller dough on a tie", x.batchDough(0), 0);
    stages("14: x", x, 0, 0, 4, 13, 16, 17, 27);
    stages("14: y overtakes", x, 1, 0, 4, 4, 7, 7, 17);
    Check.due("24: batch 1 is baked before batch 0", x.busiestMinute(2), 7);
    x = night(text + "order a x 5 by 1439;order a y 5 by 1438;", 0);
    Check.due("14: the last minute but one first", x.batchDough(0), 1);
    x = night(text + "order a x 10 by 400;", 0);
    stages("14: smaller number shaped first", x, 0, 0, 4, 13, 16, 17, 27);
    stages("14: one baker", x, 1, 0, 4, 16, 19, 27, 37);
    x = night(text + "order a x 5 by 500;order a y 10 by 400;", 0);
    stages("14: third is mixed when a mixer is free", x, 2, 4, 8, 17, 20, 27, 37);
    x = night("mixers 3;bakers 1;" + dough("x", "2 5 8 0", 99, 9, 200, 5) + dough("y", "2 3 8 0", 99, 9, 200, 5)
        + oven(1, 200, 1) + "shop a;street home a 1;van 99;order a x 5 by 300;order a y 10 by 400;", 0);
    stages("14: risen first is shaped first", x, 1, 0, 2, 5, 13, 13, 22);
    stages("14: then the other of the same minute", x, 2, 0, 2, 13, 21, 22, 31);
    stages("14: then the later one", x, 0, 0, 2, 21, 29, 31, 40);
  }

  private static void promise15to17() {
    BakeryNight x = Check.bakery(SMALL);
    Check.due("15: no night", Check.answerOf(() -> x.batchDough(0)), Check.ILLEGAL_STATE);
    Check.due("15: no night, no such batch", Check.answerOf(() -> x.batchDough(-1)), Check.ILLEGAL_STATE);
    Check.due("16: no night", Check.answerOf(() -> x.stageMinute(0, 0)), Check.ILLEGAL_STATE);
    Check.due("16: no night, no such stage", Check.answerOf(() -> x.stageMinute(0, 6)), Check.ILLEGAL_STATE);
    Check.due("17: no night", Check.answerOf(() -> x.ovenOf(9)), Check.ILLEGAL_STATE);
    x.simulate(0);
    Check.due("15: dough", Check.answerOf(() -> x.batchDough(1)), 0);
    Check.due("15: no such batch", Check.answerOf(() -> x.batchDough(2)), Check.OUT_OF_BOUNDS);
    Check.due("15: negative", Check.answerOf(() -> x.batchDough(-1)), Check.OUT_OF_BOUNDS);
    Check.due("15: 60", Check.answerOf(() -> x.batchDough(60)), Check.OUT_OF_BOUNDS);
    stages("16", x, 0, 0, 10, 30, 35, 50, 75);
    Check.due("16: no such batch", Check.answerOf(() -> x.stageMinute(2, 0)), Check.OUT_OF_BOUNDS);
    Check.due("16: negative batch", Check.answerOf(() -> x.stageMinute(-1, 0)), Check.OUT_OF_BOUNDS);
    Check.due("16: no such stage", Check.answerOf(() -> x.stageMinute(0, 6)), Check.OUT_OF_BOUNDS);
    Check.due("16: negative stage", Check.answerOf(() -> x.stageMinute(0, -1)), Check.OUT_OF_BOUNDS);
    Check.due("17: oven", Check.answerOf(() -> x.ovenOf(0)), 0);
    Check.due("17: no such batch", Check.answerOf(() -> x.ovenOf(2)), Check.OUT_OF_BOUNDS);
    Check.due("17: negative", Check.answerOf(() -> x.ovenOf(-1)), Check.OUT_OF_BOUNDS);
    x.breakOven(0, true);
    Check.due("15: the change discards it", Check.answerOf(() -> x.batchDough(0)), Check.ILLEGAL_STATE);
    x.simulate(0);
    stages("16: spoiled", x, 0, 0, 10, 30, 35, NONE, NONE);
    Check.due("17: spoiled", Check.answerOf(() -> x.ovenOf(0)), NONE);
    Check.parse(x, "");
    x.simulate(0);
    Check.due("15: no batches", Check.answerOf(() -> x.batchDough(0)), Check.OUT_OF_BOUNDS);
  }

  private static void promise18() {
    BakeryNight x = Check.bakery(SMALL);
    Check.due("18: no night", x.spoiledCount(), NO_NIGHT);
    x.simulate(0);
    Check.due("18: none", x.spoiledCount(), 0);
    x.addOrder(1, 0, 40, 300);
    x.simulate(0);
    Check.due("18: batches 3 and 4 wait too long, 5 does not", x.spoiledCount(), 2);
  }

  // ------------------------------------------------------------ promises 19 to 24

  private static void promise19to21() {
    BakeryNight x = Check.bakery(SMALL + "oven shelves 2 heat 20 rate 3;");
    Check.due("19: no night", x.changingMinutes(9), NO_NIGHT);
    Check.due("20: no night", x.bakingMinutes(9), NO_NIGHT);
    Check.due("21: no night", x.waitingMinutes(9), NO_NIGHT);
    x.simulate(100);
    Check.due("19: no such oven", x.changingMinutes(2), NONE);
    Check.due("19: negative", x.changingMinutes(-1), NONE);
    Check.due("20: no such oven", x.bakingMinutes(2), NONE);
    Check.due("20: negative", x.bakingMinutes(-1), NONE);
    Check.due("19: never changed", x.changingMinutes(0), 0);
    Check.due("19: longer than the night, 200 degrees at 3 a minute", x.changingMinutes(1), 67);
    Check.due("20: two batches", x.bakingMinutes(0), 50);
    Check.due("20: none", x.bakingMinutes(1), 0);
    Check.due("21: for the mixer, from the start", x.waitingMinutes(0), 10);
    Check.due("21: for the baker", x.waitingMinutes(1), 0);
    Check.due("21: for the oven", x.waitingMinutes(2), 15);
    Check.due("21: no such place", x.waitingMinutes(3), NONE);
    Check.due("21: negative", x.waitingMinutes(-1), NONE);
    x.breakOven(0, true);
    x.simulate(0);
    Check.due("19: an unfinished change", x.changingMinutes(1), 67);
    Check.due("19: a broken oven does not change", x.changingMinutes(0), 0);
    Check.due("21: up to the minute of spoiling", x.waitingMinutes(2), 62);
    Check.due("20: nothing baked", x.bakingMinutes(1), 0);
    BakeryNight y = night(dough("x", "1 0 7 0", 99, 10, 200, 5) + dough("y", "1 0 7 0", 99, 20, 150, 5) + oven(1, 190, 5)
        + "shop a;order a x 10 by 50;order a y 5 by 60;", 0);
    Check.due("21: for the baker, three batches", y.waitingMinutes(1), 0 + 6 + 12);
    Check.due("19: two changes", y.changingMinutes(0), 12);
    Check.due("20: three batches", y.bakingMinutes(0), 40);
    Check.due("21: mixers", y.waitingMinutes(0), 3);
  }

  private static void promise22to24() {
    BakeryNight x = Check.bakery(SMALL + "oven shelves 2 heat 20 rate 3;");
    Check.due("22: no night", x.shelvesUsed(9, 0), NO_NIGHT);
    Check.due("23: no night", x.busy(9, 0), NO_NIGHT);
    Check.due("24: no night", x.busiestMinute(9), NO_NIGHT);
    x.simulate(0);
    int[][] shelves = {{49, 0}, {50, 1}, {74, 1}, {75, 1}, {99, 1}, {100, 0}, {-1, 0}, {Integer.MIN_VALUE, 0}, {Integer.MAX_VALUE, 0}};
    for (int[] s : shelves) {
      Check.due("22: shelves at " + s[0], x.shelvesUsed(0, s[0]), s[1]);
      Check.due("23: shelves at " + s[0], x.busy(2, s[0]), s[1]);
      Check.due("22: other oven at " + s[0], x.shelvesUsed(1, s[0]), 0);
    }
    Check.due("22: no such oven", x.shelvesUsed(2, 50), NONE);
    Check.due("22: negative oven", x.shelvesUsed(-1, 50), NONE);
    int[][] mixer = {{-1, 0}, {0, 1}, {9, 1}, {10, 1}, {19, 1}, {20, 0}};
    for (int[] m : mixer) Check.due("23: mixers at " + m[0], x.busy(0, m[0]), m[1]);
    int[][] baker = {{29, 0}, {30, 1}, {34, 1}, {35, 0}, {39, 0}, {40, 1}, {44, 1}, {45, 0}};
    for (int[] b : baker) Check.due("23: bakers at " + b[0], x.busy(1, b[0]), b[1]);
    Check.due("23: no such place", x.busy(3, 50), NONE);
    Check.due("23: negative place", x.busy(-1, 50), NONE);
    Check.due("24: mixers", x.busiestMinute(0), 0);
    Check.due("24: bakers", x.busiestMinute(1), 30);
    Check.due("24: shelves", x.busiestMinute(2), 50);
    Check.due("24: no such place", x.busiestMinute(3), NONE);
    Check.due("24: negative place", x.busiestMinute(-1), NONE);
    x.breakOven(0, true);
    x.simulate(0);
    Check.due("24: no shelf ever", x.busiestMinute(2), NONE);
    Check.due("23: a spoiled batch is on no shelf", x.busy(2, NONE), 0);
    BakeryNight y = night("mixers 2;bakers 2;" + dough("x", "4 5 3 1", 99, 10, 200, 5) + oven(1, 200, 1) + oven(2, 200, 1)
        + "shop a;order a x 15 by 50;", 30);
    Check.due("24: two mixers from the start", y.busiestMinute(0), 30);
    Check.due("24: three shelves when the third begins", y.busiestMinute(2), 47);
    Check.due("23: shelves of all ovens", y.busy(2, 47), 3);
    Check.due("22: one of them", y.shelvesUsed(0, 47), 1);
    Check.due("22: the other two", y.shelvesUsed(1, 47), 2);
    BakeryNight z = Check.bakery("");
    z.simulate(0);
    Check.due("24: never any mixer", z.busiestMinute(0), NONE);
  }

  // ------------------------------------------------------------ promises 25 to 27

  private static void promise25() {
    BakeryNight x = Check.bakery(SMALL);
    Check.due("25: no night", x.readyMinute(9), NO_NIGHT);
    x.simulate(0);
    Check.due("25: first batch", x.readyMinute(0), 85);
    Check.due("25: second batch", x.readyMinute(1), 110);
    Check.due("25: no such order", x.readyMinute(2), NONE);
    Check.due("25: negative", x.readyMinute(-1), NONE);
    x.moveOrder(0, 211);
    x.simulate(0);
    Check.due("25: the earlier minute is served first", x.readyMinute(1), 85);
    Check.due("25: loaves of both batches", x.readyMinute(0), 110);
    x.moveOrder(0, 210);
    x.simulate(0);
    Check.due("25: on a tie the smaller number", x.readyMinute(0), 85);
    x.cancelOrder(0);
    x.simulate(0);
    Check.due("25: cancelled", x.readyMinute(0), NONE);
    Check.due("25: the other one first", x.readyMinute(1), 85);
    Check.due("25: the eleventh loaf is of the second batch", night(SMALL.replace("rye 10 by", "rye 11 by"), 0).readyMinute(0), 110);
    Check.due("25: loaves of both, in that order", night(SMALL.replace("rye 10 by", "rye 9 by"), 0).readyMinute(1), 110);
    BakeryNight y = Check.bakery(SMALL);
    y.addOrder(1, 0, 14, 300);
    y.addOrder(0, 0, 1, 400);
    y.addOrder(0, 0, 12, 450);
    y.simulate(0);
    Check.due("25: two of five batches are spoiled", y.spoiledCount(), 2);
    Check.due("25: enough, with a loaf of the third", y.readyMinute(2), 135);
    Check.due("25: the last of thirty loaves", y.readyMinute(3), 135);
    Check.due("25: not enough", y.readyMinute(4), NONE);
    y.addOrder(0, 0, 1, 451);
    y.simulate(0);
    Check.due("25: then no later order, though it is small", y.readyMinute(5), NONE);
  }

  private static void promise26and27() {
    BakeryNight x = Check.bakery(SMALL + dough("bun", "1 0 1 0", 50, 5, 220, 7).replace("price 100", "price 99"));
    Check.due("26: no night", x.surplusLoaves(9), NO_NIGHT);
    Check.due("27: no night", x.surplusValue(-1), NO_NIGHT);
    x.simulate(0);
    Check.due("26: five left", x.surplusLoaves(0), 5);
    Check.due("26: none of the other", x.surplusLoaves(1), 0);
    Check.due("26: no such dough", x.surplusLoaves(2), NONE);
    Check.due("26: negative", x.surplusLoaves(-1), NONE);
    int[][] values = {{99, 0}, {100, 1500}, {101, 1485}, {160, 750}, {219, 10}, {220, 0}, {221, 0}, {0, 0}, {9999, 0},
        {-1, NONE}, {10000, NONE}, {Integer.MIN_VALUE, NONE}, {Integer.MAX_VALUE, NONE}};
    for (int[] v : values) Check.due("27: at " + v[0], x.surplusValue(v[0]), v[1]);
    x.addOrder(0, 1, 4, 300);
    x.simulate(0);
    Check.due("26: three buns", x.surplusLoaves(1), 3);
    int out = x.stageMinute(2, 5);
    Check.due("27: each bun is rounded down", x.surplusValue(out + 33) - rye(out + 33), 3 * (99 * 67 / 100));
    Check.due("27: keep minutes are counted", x.surplusValue(out + 99) - rye(out + 99), 0);
    x.breakOven(0, true);
    x.simulate(0);
    Check.due("26: not enough", x.surplusLoaves(0), 0);
    Check.due("27: nothing left", x.surplusValue(100), 0);
    BakeryNight y = night(SMALL + "order a rye 5 by 220;", 0);
    Check.due("26: all given", y.surplusLoaves(0), 0);
    BakeryNight one = night(SMALL.replace("rye 5 by", "rye 9 by").replace("keep 120", "keep 1"), 0);
    Check.due("26: one loaf", one.surplusLoaves(0), 1);
    Check.due("27: one loaf, fresh", one.surplusValue(100), 300);
    Check.due("27: one loaf, a minute old", one.surplusValue(101), 0);
    BakeryNight z = night(SMALL + "order a rye 22 by 220;order a rye 7 by 230;", 0);
    Check.due("26: a spoiled batch: not enough for all", z.surplusLoaves(0), 0);
    Check.due("27: a spoiled batch", z.surplusValue(150), 0);
  }

  private static int rye(int minute) {
    int age = minute - 100;
    return age < 0 || age > 120 ? 0 : 5 * (300 * (120 - age) / 120);
  }

  // ------------------------------------------------------------ promises 28 to 32

  /** Three shops at 10, 20 and 30 minutes from home in three directions; bread for all of them is ready at 12. */
  private static String star(String vans, int... by) {
    StringBuilder t = new StringBuilder("mixers 4;bakers 4;cool 0;" + dough("x", "1 0 1 0", 99, 10, 200, 200) + oven(6, 200, 1)
        + "shop a;shop b;shop c;street home a 10;street home b 20;street home c 30;" + vans);
    for (int i = 0; i < by.length; i++) t.append("order ").append((char) ('a' + i)).append(" x 10 by ").append(by[i]).append(';');
    return t.toString();
  }

  private static void plan(String what, BakeryNight x, int failed, int... vans) {
    Check.due(what + ": failed shops", x.failedShops(), failed);
    for (int i = 0; i < vans.length; i++) Check.due(what + ": van of " + i, x.vanOf(i), vans[i]);
  }

  private static void promise28() {
    BakeryNight x = Check.bakery(star("van 100;", 22, 52, 102));
    Check.due("28: no night", x.failedShops(), NO_NIGHT);
    x.simulate(0);
    plan("28: one van, all in time", x, 0, 0, 0, 0);
    x.simulate(1);
    plan("28: all late by a minute", x, 3, 0, 0, 0);
    x.simulate(1);
    plan("28: the same night again", x, 3, 0, 0, 0);
    x.simulate(0);
    plan("28: all in time again", x, 0, 0, 0, 0);
    plan("28: one late", night(star("van 100;", 21, 52, 102), 0), 1, 0, 0, 0);
    plan("28: fewest late first, then the least minutes", night(star("van 100;van 100;", 22, 51, 102), 0), 0, 0, 1, 0);
    plan("28: all minutes alike, smallest vans", night(star("van 100;van 100;", 22, 900, 900), 0), 0, 0, 0, 1);
    plan("28: three vans are the shortest", night(star("van 100;van 100;van 100;", 900, 900, 900), 0), 0, 0, 1, 2);
    plan("28: the load decides", night(star("van 10;van 20;", 900, 900, 900), 0), 0, 1, 0, 1);
    plan("28: exactly the load", night(star("van 30;", 900, 900, 900), 0), 0, 0, 0, 0);
    plan("28: no plan for the load", night(star("van 29;", 900, 900, 900), 0), NONE, NONE, NONE, NONE);
    plan("28: no plan without vans", night(star("", 900), 0), NONE, NONE);
    plan("28: no shop to serve, no van", night(star(""), 0), 0, NONE);
    BakeryNight y = Check.bakery(star("van 100;", 900, 900));
    y.closeStreet(1, true);
    y.simulate(0);
    plan("28: not reached", y, NONE, NONE, NONE, NONE);
    y.cancelOrder(1);
    y.simulate(0);
    plan("28: nobody has to go there", y, 0, 0, NONE, NONE);
    BakeryNight z = Check.bakery(star("van 100;", 900, 900));
    z.breakOven(0, true);
    z.simulate(0);
    plan("28: missed", z, 2, NONE, NONE, NONE);
    z.closeStreet(0, true);
    z.simulate(0);
    plan("28: missed shops need no street", z, 2, NONE, NONE, NONE);
    z.undo();
    z.undo();
    z.simulate(0);
    plan("28: not missed any more", z, 0, 0, 0, NONE);
    BakeryNight u = Check.bakery(star("van 100;", 900));
    u.closeStreet(0, true);
    u.simulate(0);
    plan("28: the only shop is not reached", u, NONE, NONE);
    Check.due("28: nor is it from any start", u.latestStart(), NONE);
    plan("28: missed shops need no van", night(star("", 900).replace("heat 200 rate", "heat 20 rate"), 0), 1, NONE);
    String two = star("van 100;", 900, 900) + dough("y", "1 0 1 0", 0, 10, 300, 5) + "order a y 1 by 950;";
    plan("28: one order missed, the shop is missed", night(two, 0), 1, NONE, 0);
    Check.due("28: a shop's earliest order counts", night(star("van 100;", 900) + "order a x 5 by 21;", 0).failedShops(), 1);
  }

  private static void promise29to31() {
    BakeryNight x = Check.bakery(star("van 10;van 20;", 900, 900, 900).replace("shop c;", "shop c;shop d;"));
    Check.due("29: no night", x.vanOf(9), NO_NIGHT);
    Check.due("30: no night", x.arrivalMinute(9), NO_NIGHT);
    Check.due("31: no night", x.departureMinute(9), NO_NIGHT);
    x.simulate(5);
    plan("29", x, 0, 1, 0, 1, NONE);
    Check.due("29: no such shop", x.vanOf(4), NONE);
    Check.due("29: negative", x.vanOf(-1), NONE);
    Check.due("30: first stop", x.arrivalMinute(0), 27);
    Check.due("30: the other van", x.arrivalMinute(1), 37);
    Check.due("30: second stop", x.arrivalMinute(2), 67);
    Check.due("30: no order", x.arrivalMinute(3), NONE);
    Check.due("30: no such shop", x.arrivalMinute(4), NONE);
    Check.due("30: negative", x.arrivalMinute(-1), NONE);
    Check.due("31: van 0", x.departureMinute(0), 17);
    Check.due("31: van 1", x.departureMinute(1), 17);
    Check.due("31: no such van", x.departureMinute(2), NONE);
    Check.due("31: negative", x.departureMinute(-1), NONE);
    x.cancelOrder(2);
    x.simulate(5);
    Check.due("29: on a tie the smaller van", x.vanOf(0), 0);
    Check.due("31: both vans leave", x.departureMinute(1), 17);
    x.cancelOrder(1);
    x.simulate(5);
    Check.due("31: a van without shops", x.departureMinute(1), NONE);
    BakeryNight three = night(star("van 100;van 100;van 100;", 900, 900, 900), 0);
    Check.due("31: the third van", three.departureMinute(2), 12);
    Check.due("31: no fourth van", three.departureMinute(3), NONE);
    BakeryNight y = night(SMALL, 0);
    Check.due("31: when all its shops are ready", y.departureMinute(0), 110);
    Check.due("30: a", y.arrivalMinute(0), 120);
    Check.due("30: b", y.arrivalMinute(1), 125);
    BakeryNight z = night(star("van 9;", 900), 0);
    Check.due("29: no plan", z.vanOf(0), NONE);
    Check.due("30: no plan", z.arrivalMinute(0), NONE);
    Check.due("31: no plan", z.departureMinute(0), NONE);
    BakeryNight m = night(SMALL.replace("van 100;", "van 100;van 100;") + "order a rye 30 by 300;", 0);
    Check.due("29: a missed shop", m.vanOf(0), NONE);
    Check.due("30: a missed shop", m.arrivalMinute(0), NONE);
    Check.due("31: only the other shop's bread is waited for", m.departureMinute(0), 110);
  }

  private static void promise32() {
    BakeryNight x = Check.bakery(SMALL.replace("keep 120", "keep 45"));
    Check.due("32: no night", x.staleOrders(), NO_NIGHT);
    x.simulate(0);
    Check.due("32: a's loaves are exactly 45 minutes old", x.staleOrders(), 0);
    Check.due("32: a minute older", night(SMALL.replace("keep 120", "keep 44"), 0).staleOrders(), 1);
    Check.due("32: b's are 25", night(SMALL.replace("keep 120", "keep 25"), 0).staleOrders(), 1);
    Check.due("32: both", night(SMALL.replace("keep 120", "keep 24"), 0).staleOrders(), 2);
    Check.due("32: the oldest loaf counts", night(SMALL.replace("keep 120", "keep 49").replace("rye 10 by", "rye 4 by"), 0)
        .staleOrders(), 0);
    String older = SMALL.replace("rye 10 by", "rye 9 by").replace("rye 5 by", "rye 6 by");
    Check.due("32: b has one loaf of the first batch", night(older.replace("keep 120", "keep 49"), 0).staleOrders(), 1);
    Check.due("32: no plan", night(SMALL.replace("van 100", "van 9"), 0).staleOrders(), NONE);
    BakeryNight c = Check.bakery(SMALL.replace("keep 120", "keep 24") + "order a rye 1 by 900;");
    c.cancelOrder(2);
    c.simulate(0);
    Check.due("32: cancelled orders do not count", c.staleOrders(), 2);
    x.cancelOrder(0);
    x.cancelOrder(1);
    x.simulate(0);
    Check.due("32: no orders", x.staleOrders(), 0);
    BakeryNight y = Check.bakery(SMALL);
    y.breakOven(0, true);
    y.simulate(0);
    Check.due("32: missed shops get nothing", y.staleOrders(), 0);
  }

  // ------------------------------------------------------------ promises 33 to 35

  private static void promise33() {
    BakeryNight x = Check.bakery(SMALL);
    Check.due("33: b is the first to be late", x.latestStart(), 80);
    x.simulate(80);
    Check.due("33: in time", x.failedShops(), 0);
    x.simulate(81);
    Check.due("33: late", x.failedShops(), 1);
    x.latestStart();
    Check.due("33: the night is kept", x.failedShops(), 1);
    Check.due("33: its minutes are kept", x.arrivalMinute(0), 201);
    x.moveOrder(0, 120);
    x.moveOrder(1, 1439);
    Check.due("33: only from 0", x.latestStart(), 0);
    x.moveOrder(0, 119);
    Check.due("33: not even from 0", x.latestStart(), NONE);
    Check.due("33: no night by it", x.failedShops(), NO_NIGHT);
    x.cancelOrder(0);
    x.cancelOrder(1);
    Check.due("33: nothing ordered", x.latestStart(), 1439);
    x.addOrder(0, 0, 101, 1000);
    Check.due("33: no plan", x.latestStart(), NONE);
    for (int i = 0; i < 3; i++) x.addOrder(0, 0, 200, 1000);
    Check.due("33: too many", x.latestStart(), TOO_MANY);
    Check.due("33: two vans", Check.bakery(star("van 100;van 100;", 100, 60, 110)).latestStart(), 28);
    Check.due("33: missed", Check.bakery(SMALL.replace("oven shelves 1 heat 220 rate 10;", "")).latestStart(), NONE);
  }

  private static void promise34() {
    BakeryNight x = Check.bakery(SMALL);
    Check.due("34: one mixer more", x.latestStartWith(0), 80);
    Check.due("34: one baker more", x.latestStartWith(1), 80);
    Check.due("34: warmer", x.latestStartWith(2), 80);
    Check.due("34: one shelf more", x.latestStartWith(3), 95);
    Check.due("34: a great van", x.latestStartWith(4), 80);
    Check.due("34: no such change", x.latestStartWith(5), NONE);
    Check.due("34: negative", x.latestStartWith(-1), NONE);
    Check.due("34: nothing is changed", x.latestStart(), 80);
    Check.due("34: nothing to undo", x.undo(), NONE);
    x.simulate(0);
    x.latestStartWith(3);
    Check.due("34: the night is kept", x.arrivalMinute(1), 125);
    x.setRoom(40);
    int warm = x.latestStart();
    x.latestStartWith(2);
    Check.due("34: the room is kept", x.setRoom(40), 40);
    Check.due("34: as warm as before", x.latestStart(), warm);
    for (int i = 0; i < 3; i++) x.addOrder(0, 0, 200, 1000);
    Check.due("34: the change is looked at first", x.latestStartWith(5), NONE);
    Check.due("34: too many", x.latestStartWith(4), TOO_MANY);
    String slow = "cool 0;" + dough("x", "20 0 30 0", 99, 10, 200, 5) + oven(6, 200, 1) + "shop a;street home a 10;van 5;van 4;";
    BakeryNight y = Check.bakery(slow + "order a x 10 by 400;");
    Check.due("34: no van is great enough", y.latestStart(), NONE);
    Check.due("34: the first van is", y.latestStartWith(4), 300);
    Check.due("34: afterwards it is not", y.latestStart(), NONE);
    BakeryNight z = Check.bakery(slow.replace("van 5", "van 500").replace("van 4;", "") + "order a x 15 by 400;");
    Check.due("34: three batches", z.latestStart(), 270);
    Check.due("34: a mixer more", z.latestStartWith(0), 270);
    Check.due("34: a baker more", z.latestStartWith(1), 290);
    Check.due("34: no van, nothing changed", Check.bakery(slow.replace("van 5;van 4;", "") + "order a x 5 by 400;").latestStartWith(4),
        NONE);
    Check.due("34: one van is too small, but great as the first", Check.bakery(star("van 5;van 10;", 40, 40)).latestStartWith(4), 8);
    BakeryNight w = Check.bakery("room 40;cool 0;mixers 4;" + dough("x", "1 205 1 0", 99, 10, 200, 5) + oven(1, 200, 1)
        + "shop a;street home a 10;van 50;order a x 5 by 400;");
    Check.due("34: at 40 degrees", w.latestStart(), 400 - 22 - 123);
    Check.due("34: at 41 degrees", w.latestStartWith(2), 400 - 22 - 120);
    BakeryNight v = Check.bakery("mixers 4;cool 0;" + dough("x", "10 0 1 0", 99, 10, 200, 5) + oven(6, 200, 1)
        + "shop a;street home a 10;van 50;order a x 25 by 400;");
    Check.due("34: four mixers", v.latestStart(), 400 - 41);
    Check.due("34: a fifth mixer", v.latestStartWith(0), 400 - 35);
  }

  private static void promise35() {
    BakeryNight x = Check.bakery(SMALL);
    Check.due("35: without a b it is 75, without home a it is 65", x.vitalStreet(), 1);
    x.simulate(81);
    x.vitalStreet();
    Check.due("35: the night is kept", x.failedShops(), 1);
    Check.due("35: the streets are kept", x.distance(0, 1), 5);
    Check.due("35: the routes are kept", x.routeMinutes(3), 15);
    Check.due("35: nothing to undo", x.undo(), NONE);
    x.closeStreet(2, true);
    Check.due("35: both others are needed, the first one on a tie", x.vitalStreet(), 0);
    x.closeStreet(0, true);
    Check.due("35: no latest start", x.vitalStreet(), NONE);
    BakeryNight y = Check.bakery(star("van 100;", 900) + "street home a 10;");
    Check.due("35: another street as good", y.vitalStreet(), NONE);
    BakeryNight s = Check.bakery(star("van 100;", 900, 900, 900));
    Check.due("35: all are needed", s.vitalStreet(), 0);
    Check.due("35: the last street is kept", s.distance(NONE, 2), 30);
    Check.due("35: its route is kept", s.routeMinutes(4), 30);
    y.closeStreet(3, true);
    Check.due("35: the only one", y.vitalStreet(), 0);
    y.closeStreet(0, true);
    y.closeStreet(3, false);
    Check.due("35: closed ones do not count", y.vitalStreet(), 3);
    for (int i = 0; i < 13; i++) y.addOrder(0, 0, 200, 1000);
    Check.due("35: too many loaves for the van", y.vitalStreet(), NONE);
    BakeryNight z = Check.bakery(SMALL);
    for (int i = 0; i < 4; i++) z.addOrder(0, 0, 200, 1000);
    Check.due("35: too many", z.vitalStreet(), TOO_MANY);
    Check.due("35: an empty bakery", new BakeryNight().vitalStreet(), NONE);
  }

  // ------------------------------------------------------------ promises 36 to 42

  private static BakeryNight simulated() {
    return night(SMALL, 0);
  }

  private static void promise36() {
    BakeryNight x = simulated();
    Check.due("36: too cold", x.setRoom(9), NONE);
    Check.due("36: too warm", x.setRoom(41), NONE);
    Check.due("36: no change", x.undo(), NONE);
    Check.due("36: the night is kept", x.spoiledCount(), 0);
    Check.due("36: coldest", x.setRoom(10), 24);
    Check.due("36: the night is discarded", x.spoiledCount(), NO_NIGHT);
    Check.due("36: slow", x.risingMinutes(0, false), 48);
    Check.due("36: warmest", x.setRoom(40), 10);
    x.simulate(0);
    Check.due("36: the same again", x.setRoom(40), 40);
    Check.due("36: discarded by what changes nothing", x.spoiledCount(), NO_NIGHT);
    Check.due("36: three changes", x.undo(), 2);
  }

  private static void promise37() {
    BakeryNight x = simulated();
    Check.due("37: no such oven", x.breakOven(1, true), false);
    Check.due("37: negative", x.breakOven(-1, true), false);
    Check.due("37: no change", x.undo(), NONE);
    Check.due("37: the night is kept", x.spoiledCount(), 0);
    Check.due("37: whole anyway", x.breakOven(0, false), true);
    Check.due("37: the night is discarded", x.spoiledCount(), NO_NIGHT);
    x.simulate(0);
    Check.due("37: not broken", x.spoiledCount(), 0);
    Check.due("37: broken", x.breakOven(0, true), true);
    x.simulate(0);
    Check.due("37: it is broken", x.spoiledCount(), 2);
    Check.due("37: whole again", x.breakOven(0, false), true);
    x.simulate(0);
    Check.due("37: it is whole", x.spoiledCount(), 0);
    Check.due("37: three changes", x.undo(), 2);
    x.simulate(0);
    Check.due("37: undone", x.spoiledCount(), 2);
  }

  private static void promise38() {
    BakeryNight x = simulated();
    Check.due("38: no such street", x.closeStreet(3, true), false);
    Check.due("38: negative", x.closeStreet(-1, true), false);
    Check.due("38: no change", x.undo(), NONE);
    Check.due("38: the night is kept", x.spoiledCount(), 0);
    Check.due("38: open anyway", x.closeStreet(0, false), true);
    Check.due("38: the night is discarded", x.spoiledCount(), NO_NIGHT);
    Check.due("38: open", x.distance(NONE, 0), 10);
    Check.due("38: closed", x.closeStreet(0, true), true);
    Check.due("38: it is closed", x.distance(NONE, 0), 25);
    Check.due("38: the routes know", x.routeStop(3, 0), 1);
    Check.due("38: closed again", x.closeStreet(0, true), true);
    x.undo();
    Check.due("38: still closed", x.distance(NONE, 0), 25);
    x.undo();
    Check.due("38: open again", x.distance(NONE, 0), 10);
    Check.due("38: the routes know that too", x.routeMinutes(3), 15);
  }

  private static void promise39() {
    BakeryNight x = simulated();
    int[][] wrong = {{2, 0, 5, 5}, {-1, 0, 5, 5}, {0, 1, 5, 5}, {0, -1, 5, 5}, {0, 0, 0, 5}, {0, 0, 201, 5}, {0, 0, 5, -1},
        {0, 0, 5, 1440}};
    for (int[] w : wrong) Check.due("39: wrong", x.addOrder(w[0], w[1], w[2], w[3]), NONE);
    Check.due("39: no change", x.undo(), NONE);
    Check.due("39: the night is kept", x.spoiledCount(), 0);
    Check.due("39: its number", x.addOrder(1, 0, 200, 1439), 2);
    Check.due("39: the night is discarded", x.spoiledCount(), NO_NIGHT);
    Check.due("39: loaves", x.orderedLoaves(0), 215);
    Check.due("39: least", x.addOrder(0, 0, 1, 0), 3);
    Check.due("39: its minute", x.moveOrder(3, 7), 0);
    Check.due("39: orders", x.orderCount(), 4);
    x.cancelOrder(2);
    for (int i = 4; i < 24; i++) Check.due("39: up to 24", x.addOrder(0, 0, 1, 9), i);
    Check.due("39: 24 orders, a cancelled one among them", x.addOrder(0, 0, 1, 9), NONE);
    Check.due("39: 24", x.orderCount(), 24);
    x.undo();
    Check.due("39: one undone", x.orderCount(), 23);
    Check.due("39: its number is free again", x.addOrder(1, 0, 1, 9), 23);
  }

  private static void promise40() {
    BakeryNight x = simulated();
    Check.due("40: no such order", x.cancelOrder(2), false);
    Check.due("40: negative", x.cancelOrder(-1), false);
    Check.due("40: no change", x.undo(), NONE);
    Check.due("40: the night is kept", x.spoiledCount(), 0);
    Check.due("40: cancelled", x.cancelOrder(0), true);
    Check.due("40: the night is discarded", x.spoiledCount(), NO_NIGHT);
    Check.due("40: already", x.cancelOrder(0), false);
    Check.due("40: one change", x.undo(), 0);
    Check.due("40: ordered again", x.orderedLoaves(0), 15);
    x.cancelOrder(0);
    x.simulate(0);
    Check.due("40: the shop has no order", x.vanOf(0), NONE);
    Check.due("40: nor a failure", x.failedShops(), 0);
    Check.due("40: the latest start is without it", x.latestStart(), 110);
    Check.due("40: a new order does not take its number", x.addOrder(0, 0, 1, 9), 2);
    x.undo();
    x.undo();
    x.cancelOrder(1);
    x.undo();
    x.addOrder(0, 0, 1, 9);
    x.cancelOrder(2);
    x.undo();
    x.undo();
    Check.due("40: a number used again", x.addOrder(0, 0, 3, 9), 2);
    Check.due("40: is not cancelled", x.orderedLoaves(0), 18);
  }

  private static void promise41() {
    BakeryNight x = simulated();
    Check.due("41: no such order", x.moveOrder(2, 5), NONE);
    Check.due("41: negative order", x.moveOrder(-1, 5), NONE);
    Check.due("41: too early", x.moveOrder(0, -1), NONE);
    Check.due("41: too late", x.moveOrder(0, 1440), NONE);
    Check.due("41: no change", x.undo(), NONE);
    Check.due("41: the night is kept", x.spoiledCount(), 0);
    Check.due("41: last minute", x.moveOrder(0, 1439), 200);
    Check.due("41: the night is discarded", x.spoiledCount(), NO_NIGHT);
    Check.due("41: first minute", x.moveOrder(0, 0), 1439);
    Check.due("41: the same", x.moveOrder(0, 0), 0);
    Check.due("41: three changes", x.undo(), 2);
    Check.due("41: back to 1439", x.undo(), 1);
    Check.due("41: it was 1439", x.moveOrder(0, 300), 1439);
    x.cancelOrder(1);
    Check.due("41: cancelled", x.moveOrder(1, 5), NONE);
  }

  private static void promise42() {
    BakeryNight x = simulated();
    Check.due("42: nothing to undo", x.undo(), NONE);
    Check.due("42: the night is kept", x.spoiledCount(), 0);
    x.setRoom(30);
    x.simulate(0);
    Check.due("42: the only one", x.undo(), 0);
    Check.due("42: the night is discarded", x.spoiledCount(), NO_NIGHT);
    Check.due("42: the room is back", x.setRoom(24), 24);
    x.undo();
    for (int i = 0; i < 15; i++) x.setRoom(10 + i);
    for (int i = 11; i >= 0; i--) Check.due("42: twelve can be undone", x.undo(), i);
    Check.due("42: the older ones cannot", x.undo(), NONE);
    Check.due("42: as before the twelve", x.setRoom(20), 12);
    x.undo();
    mixed();
    x.moveOrder(1, 5);
    x.breakOven(0, true);
    x.closeStreet(1, true);
    x.cancelOrder(1);
    x.addOrder(1, 0, 3, 9);
    x.cancelOrder(2);
    x.setRoom(39);
    int[] left = {6, 5, 4, 3, 2, 1, 0};
    x.undo();
    Check.due("42: the room", x.setRoom(12), 12);
    x.undo();
    x.undo();
    Check.due("42: the added order is there again", x.cancelOrder(2), true);
    x.undo();
    Check.due("42: the added order goes", x.undo(), left[2]);
    Check.due("42: two orders", x.orderCount(), 2);
    Check.due("42: the cancelled one is back", x.undo(), left[3]);
    Check.due("42: loaves", x.orderedLoaves(0), 15);
    Check.due("42: the street", x.undo(), left[4]);
    Check.due("42: is open", x.distance(0, 1), 5);
    x.simulate(0);
    Check.due("42: the oven is broken yet", x.spoiledCount(), 2);
    Check.due("42: the oven", x.undo(), left[5]);
    x.simulate(0);
    Check.due("42: is whole", x.spoiledCount(), 0);
    Check.due("42: the minute", x.undo(), left[6]);
    Check.due("42: is 210", x.moveOrder(1, 1), 210);
  }

  /** More changes of all kinds than can be undone; the last twelve come back one by one. */
  private static void mixed() {
    BakeryNight x = Check.bakery(SMALL + "oven shelves 1 heat 230 rate 1;");
    x.setRoom(30);
    x.setRoom(31);
    x.addOrder(0, 0, 7, 50);
    x.closeStreet(0, true);
    x.closeStreet(1, true);
    x.moveOrder(0, 60);
    x.moveOrder(1, 61);
    x.cancelOrder(2);
    x.breakOven(1, true);
    x.setRoom(32);
    x.addOrder(1, 0, 8, 51);
    x.moveOrder(0, 62);
    x.closeStreet(0, false);
    x.cancelOrder(0);
    for (int i = 11; i > 8; i--) Check.due("42: mixed", x.undo(), i);
    Check.due("42: order 0 is back at its minute", x.moveOrder(0, 62), 60);
    x.undo();
    Check.due("42: street 0 is closed", x.distance(NONE, 0), NONE);
    Check.due("42: added order", x.undo(), 8);
    Check.due("42: three orders", x.orderCount(), 3);
    Check.due("42: room", x.undo(), 7);
    Check.due("42: oven", x.undo(), 6);
    Check.due("42: order 2", x.undo(), 5);
    Check.due("42: is ordered", x.orderedLoaves(0), 22);
    Check.due("42: minute of 1", x.undo(), 4);
    Check.due("42: minute of 0", x.undo(), 3);
    Check.due("42: street 1", x.undo(), 2);
    Check.due("42: is open", x.distance(NONE, 0), 25);
    Check.due("42: street 0", x.undo(), 1);
    Check.due("42: is open", x.distance(NONE, 0), 10);
    Check.due("42: order 2 goes", x.undo(), 0);
    Check.due("42: two orders", x.orderCount(), 2);
    Check.due("42: no more", x.undo(), NONE);
    Check.due("42: the room stays", x.setRoom(10), 31);
    x.undo();
    Check.due("42: minute of 0 is the first", x.moveOrder(0, 5), 200);
    Check.due("42: minute of 1 is the first", x.moveOrder(1, 5), 210);
  }

  public static void main(String[] args) {
    examples();
    promise1();
    promise2();
    promise3();
    promise4();
    promise5and6();
    promise7to9();
    promise10();
    promise11();
    promise12and13();
    promise14();
    promise15to17();
    promise18();
    promise19to21();
    promise22to24();
    promise25();
    promise26and27();
    promise28();
    promise29to31();
    promise32();
    promise33();
    promise34();
    promise35();
    promise36();
    promise37();
    promise38();
    promise39();
    promise40();
    promise41();
    promise42();
    Check.end("PromisesTest");
  }
}
