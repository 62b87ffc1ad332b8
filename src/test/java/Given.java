/** Texts of small bakeries, and objects in given states, for the tests of the boundary cases. */
final class Given {
  static final int NONE = BakeryNight.NONE;
  static final int NO_NIGHT = BakeryNight.NO_NIGHT;
  static final int TOO_MANY = BakeryNight.TOO_MANY;

  private Given() { }

  static final String RYE = "dough rye mix 3 rise 10 shape 2 proof 5 limit 40 bake 12 heat 220 yield 10 "
      + "keep 60 price 300;";
  static final String BUN = "dough bun mix 2 rise 4 shape 1 proof 3 limit 30 bake 8 heat 200 yield 6 keep 30 price 45;";

  /** Two doughs, three ovens, three shops, four streets, two vans, five orders. */
  static final String RICH = "room 22;cool 7;mixers 2;bakers 2;" + RYE + BUN
      + "oven shelves 1 heat 220 rate 10;oven shelves 2 heat 190 rate 5;oven shelves 1 heat 200 rate 1;"
      + "shop a;shop b;shop c;street home a 10;street a b 5;street home b 20;street b c 7;van 40;van 25;"
      + "order a rye 10 by 200;order b rye 5 by 210;order c bun 8 by 190;order a bun 3 by 220;order b bun 4 by 205;";

  /** As many of everything as there may be: 6 doughs, 4 ovens, 7 shops, 20 streets, 3 vans, 24 orders; 60 batches. */
  static final String FULL = times(6, "dough # mix 2rise 1shape 1proof 1limit 99bake 2heat 200yield 5keep 9price 1;")
      + times(4, "oven shelves 6heat 200rate 1;") + times(7, "shop #;") + times(14, "street home a 3;")
      + "street a b 2;street b c 2;street c d 2;street d e 2;street e f 2;street f g 2;" + times(3, "van 120;")
      + times(6, "order # # 15by 900;") + times(6, "order # # 15by 901;") + times(6, "order # # 10by 902;")
      + times(6, "order # # 10by 903;");

  /** A text some times over, with a letter from a on for each # in it. */
  static String times(int count, String text) {
    StringBuilder t = new StringBuilder();
    for (int i = 0; i < count; i++) t.append(text.replace("#", String.valueOf((char) ('a' + i))));
    return t.toString();
  }

  /** A dough with the times of mixing, rising, shaping and proofing; it keeps 100 minutes and costs 100 cents. */
  static String dough(String name, String times, int limit, int bake, int heat, int yield) {
    String[] t = times.split(" ");
    return "dough " + name + " mix " + t[0] + " rise " + t[1] + " shape " + t[2] + " proof " + t[3] + " limit "
        + limit + " bake " + bake + " heat " + heat + " yield " + yield + " keep 100 price 100;";
  }

  static String oven(int shelves, int heat, int rate) {
    return "oven shelves " + shelves + " heat " + heat + " rate " + rate + ";";
  }

  static BakeryNight night(String text, int start) {
    BakeryNight x = Check.bakery(text);
    x.simulate(start);
    return x;
  }

  static void stages(String what, BakeryNight x, int batch, int... want) {
    for (int stage = 0; stage < want.length; stage++) {
      final int s = stage;
      Check.due(what + ": stage " + stage + " of batch " + batch, Check.answerOf(() -> x.stageMinute(batch, s)),
          want[stage]);
    }
  }

  static void fine(String text, int statements) {
    BakeryNight x = new BakeryNight();
    Check.due("parseBakery() of " + text, Check.parse(x, text), statements);
    Check.due("errorCode() of " + text, x.errorCode(), 0);
    Check.due("errorOffset() of " + text, x.errorOffset(), NONE);
  }

  static void fault(String text, int code, int offset) {
    BakeryNight x = new BakeryNight();
    Check.due("parseBakery() of " + text, Check.parse(x, text), NONE);
    Check.due("errorCode() of " + text, x.errorCode(), code);
    Check.due("errorOffset() of " + text, x.errorOffset(), offset);
  }

  // ------------------------------------------------------------ objects in given states

  /** A bakery with a change of each kind, an error of the latest parse and a text that waits in the buffer. */
  static BakeryNight changed() {
    BakeryNight x = Check.bakery(RICH);
    x.setRoom(25);
    x.breakOven(2, true);
    x.closeStreet(2, true);
    x.addOrder(2, 0, 4, 230);
    x.cancelOrder(3);
    x.moveOrder(1, 215);
    Check.parse(x, "cool 3;room 50;");
    Check.feed(x, "room 30;shop q;street q home 4;");
    return x;
  }

  /** The same, with the night from minute 100. */
  static BakeryNight simulated() {
    BakeryNight x = changed();
    x.simulate(100);
    return x;
  }

  /** A night of a bakery that has as many of everything as it may have; the buffer is full. */
  static BakeryNight full() {
    BakeryNight x = Check.bakery(FULL);
    x.simulate(100);
    Check.feed(x, " ".repeat(1593) + "shop q;");
    return x;
  }

  /** A bakery with 61 batches; no night can be simulated. */
  static BakeryNight crowded() {
    BakeryNight x = Check.bakery(RICH);
    x.addOrder(0, 0, 200, 600);
    x.addOrder(0, 0, 200, 600);
    x.addOrder(0, 0, 195, 600);
    x.cancelOrder(2);
    x.cancelOrder(3);
    x.cancelOrder(4);
    x.moveOrder(0, 500);
    Check.feed(x, "van 7;");
    return x;
  }
}
