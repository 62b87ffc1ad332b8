import java.io.ByteArrayOutputStream;
import java.io.IOException;
import java.io.InputStream;
import java.nio.charset.StandardCharsets;
import java.nio.file.DirectoryStream;
import java.nio.file.Files;
import java.nio.file.Path;
import java.util.ArrayList;
import java.util.List;
import java.util.regex.Matcher;
import java.util.regex.Pattern;

/** README.md: its program answers what its comments say, and it names every test. */
public final class ReadmeTest {
  private ReadmeTest() { }

  private static String block(String readme) {
    Matcher m = Pattern.compile("(?s)```java\n(.*?)```").matcher(readme);
    Check.due("README.md has a program", m.find(), true);
    return m.group(1);
  }

  private static List<String> wanted(String program) {
    List<String> want = new ArrayList<>();
    Matcher m = Pattern.compile("println\\(.*// (\\d+)").matcher(program);
    while (m.find()) want.add(m.group(1));
    return want;
  }

  /** What the program prints, line by line, with the class that this test is run with. */
  private static String[] printed(String program) throws IOException, InterruptedException {
    Path file = Files.createTempDirectory("readme").resolve("Example.java");
    Files.writeString(file, program);
    String java = Path.of(System.getProperty("java.home"), "bin", "java").toString();
    Process run = new ProcessBuilder(java, "-cp", System.getProperty("java.class.path"), file.toString())
        .redirectErrorStream(true).start();
    ByteArrayOutputStream out = new ByteArrayOutputStream();
    try (InputStream in = run.getInputStream()) {
      in.transferTo(out);
    }
    Check.due("the program of README.md ends with", run.waitFor(), 0);
    Files.delete(file);
    Files.delete(file.getParent());
    return out.toString(StandardCharsets.ISO_8859_1).trim().split("\\R");
  }

  private static void program(String readme) throws IOException, InterruptedException {
    String program = block(readme);
    List<String> want = wanted(program);
    String[] got = printed(program);
    Check.due("answers told in README.md", want.size(), 5);
    Check.due("lines printed by the program of README.md", got.length, want.size());
    for (int i = 0; i < Math.min(got.length, want.size()); i++) {
      Check.due("line " + i + " is " + want.get(i) + ", not " + got[i], got[i].equals(want.get(i)), true);
    }
  }

  private static void tests(String readme) throws IOException {
    try (DirectoryStream<Path> files = Files.newDirectoryStream(Path.of("src/test/java"), "*Test.java")) {
      for (Path file : files) {
        String name = file.getFileName().toString().replace(".java", "");
        Check.due("README.md names " + name, readme.contains("`" + name + "`"), true);
      }
    }
  }

  public static void main(String[] args) throws IOException, InterruptedException {
    String readme = Files.readString(Path.of("README.md"), StandardCharsets.UTF_8);
    program(readme);
    tests(readme);
    Check.end("ReadmeTest");
  }
}
