import java.io.File;
import java.nio.file.Files;
import java.nio.file.Path;
import java.util.regex.Matcher;
import java.util.regex.Pattern;
import javax.tools.ToolProvider;

/** What README.md shows: its program is compiled and run, each answer in it asked for, and its table has every test. */
public final class ReadmeTest {
  /** A call, and what its comment begins with. */
  private static final Pattern SHOWN = Pattern.compile("^\\s*((?:x\\.|tell\\().*\\));\\s*// (-?\\d+|true|false)\\b.*$");
  private static final Pattern CALL = Pattern.compile("^\\s*(x\\.|tell\\().*");
  private static final int FEWEST_SHOWN = 40;

  static String program(String readme) {
    int begin = readme.indexOf("```java\n");
    int end = readme.indexOf("```\n", begin + 1);
    return begin < 0 || end < 0 ? "" : readme.substring(begin + 8, end);
  }

  /** The program with each call that has an answer behind it held against this answer. */
  static String asking(String program) {
    StringBuilder asking = new StringBuilder();
    int shown = 0;
    boolean inMain = false;
    for (String line : program.split("\n")) {
      inMain |= line.contains("void main(");
      Matcher call = SHOWN.matcher(line);
      if (inMain && call.matches()) {
        String told = call.group(1).replace("\\", "\\\\").replace("\"", "\\\"");
        asking.append("Check.due(\"README: ").append(told).append("\", ").append(call.group(1)).append(", ").append(call.group(2)).append(");\n");
        shown++;
      } else {
        Check.due("README has no answer behind " + line, inMain && CALL.matcher(line).matches(), false);
        asking.append(line).append('\n');
      }
    }
    Check.due("some " + FEWEST_SHOWN + " answers are shown", shown >= FEWEST_SHOWN, true);
    return asking.toString();
  }

  /** Compiled into the folder of this test's own classes, so that it sees FirstSill and Check as this test does. */
  static void compileAndRun(String program) throws Exception {
    String classes = System.getProperty("java.class.path").split(File.pathSeparator)[0];
    Path folder = Files.createTempDirectory("readme");
    Path source = folder.resolve("Example.java");
    Files.writeString(source, program);
    int failed = ToolProvider.getSystemJavaCompiler().run(null, null, null, "-cp", classes, "-d", classes, source.toString());
    Files.delete(source);
    Files.delete(folder);
    Check.due("the program of README compiles", failed, 0);
    if (failed == 0) Class.forName("Example").getMethod("main", String[].class).invoke(null, (Object) new String[0]);
  }

  static void everyTestIsListed(String readme) {
    Check.due("the command is told", readme.contains("    bash .ci/run\n"), true);
    File[] files = new File("src/test/java").listFiles((dir, name) -> name.endsWith("Test.java"));
    Check.due("tests", files != null && files.length > 0, true);
    if (files == null) return;
    for (File file : files) {
      String name = file.getName().replace(".java", "");
      Check.due(name + " is in README's table", Pattern.compile("(?m)^\\|.*`" + name + "`.*\\|").matcher(readme).find(), true);
    }
  }

  public static void main(String[] args) throws Exception {
    String readme = Files.readString(Path.of("README.md"));
    compileAndRun(asking(program(readme)));
    everyTestIsListed(readme);
    Check.end();
  }
}
