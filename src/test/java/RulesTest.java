import java.io.IOException;
import java.lang.management.ManagementFactory;
import java.lang.reflect.Constructor;
import java.lang.reflect.Field;
import java.lang.reflect.Method;
import java.lang.reflect.Modifier;
import java.nio.charset.StandardCharsets;
import java.nio.file.Files;
import java.nio.file.Path;
import java.util.ArrayList;
import java.util.List;
import java.util.TreeSet;
import java.util.regex.Matcher;
import java.util.regex.Pattern;

/** The rules of ../shared/LANGUAGE.md, as far as a look at the source and the classes can tell; and that calls make no objects. */
public final class RulesTest {
  private static final Path SOURCE = Path.of("src/main/java/BakeryNight.java");

  private RulesTest() { }

  private static void none(String rule, String source, String pattern) {
    Matcher m = Pattern.compile(pattern).matcher(source);
    while (m.find()) Check.due(rule + " [" + m.group().trim() + "]", 1, 0);
    Check.due(rule, 0, 0);
  }

  /** The source without comments and without what stands in quotes. */
  private static String code(String source) {
    return source.replaceAll("(?s)/\\*.*?\\*/", "").replaceAll("//[^\n]*", "").replaceAll("\"[^\"\n]*\"", "\"\"")
        .replaceAll("'[^'\n]+'", "' '");
  }

  private static void words(String source) {
    String code = code(source);
    Matcher foreign = Pattern.compile("[^\\x09\\x0a\\x20-\\x7e]").matcher(source);
    Check.due("rule 4: only plain signs", foreign.find(), false);
    none("rule 1: a package", code, "\\bpackage\\b");
    none("rule 2: lambdas and method references", code, "->|::");
    none("rule 4: other imports", code, "import (?!java\\.util\\.Arrays;)[^;]*;");
    none("rule 4: other classes of the library", code,
        "\\b(Object|Random|HashMap|Map|Set|Thread|Character|Collections|Stream|Optional|Objects|Boolean|Byte|Class)\\b");
    none("rule 4: other functions of System, Arrays and Integer", code,
        "System\\.(?!arraycopy\\()\\w+|Arrays\\.(?!fill\\()\\w+|Integer\\.(?!bitCount\\()\\w+|Math\\.(?!min\\(|max\\(|abs\\()\\w+");
    none("rule 6: words that are not allowed", code, "\\b(try|catch|finally|synchronized|assert|throws Exception)\\b");
    none("rule 6: equals, hashCode and toString", code, "\\b(equals|hashCode|toString)\\b");
    none("rule 10: texts joined by +", code, "\"\"\\s*\\+|\\+\\s*\"\"");
    none("rule 6: throws of something else", code,
        "throw (?!new (IllegalStateException|IndexOutOfBoundsException)\\(\"\"\\);)[^;]*;");
    none("rule 5: static state", code, "\\bstatic (?!final|\\w+(\\[\\])* \\w+\\(|final class|class)[^;(]*;|static \\{");
  }

  private static void methods(String source) {
    int start = 0;
    String name = "none";
    String[] lines = source.split("\n");
    for (int i = 0; i < lines.length; i++) {
      Matcher m = Pattern.compile("^( {4}| {8})[\\w<>\\[\\], ]*?(\\w+)\\([^)]*\\)[\\w, ]* \\{$").matcher(lines[i]);
      if (m.find() && !lines[i].contains(" new ") && !lines[i].trim().startsWith("}")) {
        start = i;
        name = m.group(1) + "}";
      } else if (lines[i].equals(name)) {
        Check.due("rule 11: the method before line " + (i + 1) + " is short", i - start + 1 <= 60, true);
        name = "none";
      }
      Check.due("line " + (i + 1) + " is not too long", lines[i].length() <= 120, true);
    }
  }

  /** What a constructor makes gets nothing of the object that is not made yet. */
  private static void constructors(String source) {
    Matcher m = Pattern.compile("(?m)^( +)(public )?[A-Z]\\w*\\([^)]*\\) \\{\n((?s:.*?))\n\\1\\}$").matcher(code(source));
    int seen = 0;
    while (m.find()) {
      seen++;
      none("rule 12: handed out by a constructor", m.group(3), "new [A-Z]\\w*\\([^)]+\\)|\\bthis\\b");
      none("rule 6: a throw in a constructor", m.group(3), "\\bthrow\\b");
    }
    Check.due("constructors looked at", seen, 9);
  }

  private static void classes() {
    List<Class<?>> all = new ArrayList<>();
    all.add(BakeryNight.class);
    for (Class<?> c : BakeryNight.class.getDeclaredClasses()) all.add(c);
    Check.due("rule 11: classes", all.size() <= 12, true);
    TreeSet<String> face = new TreeSet<>();
    for (Method m : BakeryNight.class.getDeclaredMethods()) if (Modifier.isPublic(m.getModifiers())) face.add(m.getName());
    for (Class<?> c : all) {
      int fields = 0;
      for (Field f : c.getDeclaredFields()) if (!f.isSynthetic() && !Modifier.isStatic(f.getModifiers())) fields++;
      Check.due("rule 11: fields of " + c, fields <= 20, true);
      for (Method m : c.getDeclaredMethods()) {
        Check.due("rule 11: parameters of " + m, m.getParameterCount() <= 7, true);
        boolean own = c == BakeryNight.class && Modifier.isPublic(m.getModifiers());
        Check.due("rule 1: a method with the name of a public one: " + m, !own && face.contains(m.getName()), false);
        Check.due("rule 1: only the face: " + m, c == BakeryNight.class && !own && !Modifier.isPrivate(m.getModifiers()), false);
      }
      if (c != BakeryNight.class) {
        Check.due("rule 1: static and not public: " + c, Modifier.isStatic(c.getModifiers()) && !Modifier.isPublic(c.getModifiers()),
            true);
      }
    }
    face(face);
  }

  private static void face(TreeSet<String> names) {
    String[] want = ("addOrder arrivalMinute bakingMinutes batchCount batchDough breakOven busiestMinute busy cancelOrder "
        + "changingMinutes closeStreet departureMinute distance errorCode errorOffset failedShops feed latestStart "
        + "latestStartWith moveOrder orderCount orderedLoaves ovenOf parseBakery readyMinute risingMinutes routeMinutes "
        + "routeStop setRoom shelvesUsed simulate spoiledCount stageMinute staleOrders surplusLoaves surplusValue truncate "
        + "undo vanOf vitalStreet waitingMinutes").split(" ");
    Check.due("rule 1: the methods of the face", String.join(" ", names).equals(String.join(" ", want)), true);
    Constructor<?>[] made = BakeryNight.class.getDeclaredConstructors();
    Check.due("rule 1: one constructor", made.length == 1 && Modifier.isPublic(made[0].getModifiers())
        && made[0].getParameterCount() == 0, true);
    int constants = 0;
    for (Field f : BakeryNight.class.getDeclaredFields()) {
      if (!Modifier.isPrivate(f.getModifiers())) {
        constants++;
        Check.due("rule 1: a constant: " + f, f.getModifiers() == (Modifier.PUBLIC | Modifier.STATIC | Modifier.FINAL), true);
      }
    }
    Check.due("rule 1: three constants", constants, 3);
    Check.due("rule 1: final", Modifier.isFinal(BakeryNight.class.getModifiers()), true);
  }

  private static final int[][] TEXT = {{1919905645, 540161083, 1668247404, 540094523, 1685026151},
      {1746956921, 1696623977, 2015375664, 544369011, 1696608816}, {544434273, 1885675573, 544240239, 1868963889, 891317353},
      {1835627552, 858792034, 1634428192, 842342504, 1700885536}, {842149920, 2036950380, 1679831344, 543909221, 1881157938},
      {807432306, 1768121632, 858796091, 1870030190, 544434277}, {1819698547, 540090472, 1700885536, 842149920, 1918989413},
      {540094523, 1936224112, 543243123, 1752133664, 1648063348}, {1919247732, 543715181, 1696620832, 825244531, 1953654117},
      {1948279072, 1646277947, 1937011301, 1702109288, 1869440288}, {1646277168, 997613934, 540094512, 997159524, 1701978209},
      {544373093, 540094496, 1652105266, 808467311, 1919182194}, {543301746, 2036670517, 543324448, 842084411, 0}};

  private static long round(BakeryNight x) {
    long sum = 0;
    for (int[] t : TEXT) sum += x.feed(t[0], t[1], t[2], t[3], t[4]);
    x.truncate(256);
    sum += x.parseBakery() + x.simulate(40) + x.failedShops() + x.staleOrders() + x.vanOf(0) + x.arrivalMinute(1)
        + x.departureMinute(0) + x.latestStart() + x.latestStartWith(3) + x.vitalStreet() + x.routeStop(3, 1) + x.busiestMinute(2)
        + x.surplusValue(100) + x.readyMinute(1) + x.waitingMinutes(2) + x.stageMinute(1, 4) + x.ovenOf(0) + x.batchDough(1);
    for (int i = 0; i < 14; i++) sum += x.addOrder(0, 0, 2, 300 + i) + x.moveOrder(i, 9) + x.setRoom(20 + i);
    x.closeStreet(0, true);
    x.breakOven(0, true);
    x.cancelOrder(0);
    for (int i = 0; i < 14; i++) sum += x.undo();
    return sum;
  }

  /** The room of a run is small, so that calls may not make objects. */
  private static void room() {
    com.sun.management.ThreadMXBean threads = (com.sun.management.ThreadMXBean) ManagementFactory.getThreadMXBean();
    BakeryNight x = new BakeryNight();
    long sum = round(x);
    long self = Thread.currentThread().getId();
    long before = threads.getThreadAllocatedBytes(self);
    for (int i = 0; i < 100; i++) sum -= round(x) / 100;
    long used = threads.getThreadAllocatedBytes(self) - before;
    Check.due("calls make no objects: " + used + " bytes", used < 2000, true);
    Check.due("the same answers each time", sum < 100, true);
    before = threads.getThreadAllocatedBytes(self);
    x = new BakeryNight();
    used = threads.getThreadAllocatedBytes(self) - before;
    Check.due("an object is small: " + used + " bytes, " + x.orderCount(), used < 60000, true);
  }

  public static void main(String[] args) throws IOException {
    String source = Files.readString(SOURCE, StandardCharsets.UTF_8);
    words(source);
    methods(source);
    constructors(source);
    classes();
    room();
    Check.end("RulesTest");
  }
}
