import java.io.IOException;
import java.lang.reflect.Method;
import java.lang.reflect.Modifier;
import java.nio.charset.StandardCharsets;
import java.nio.file.Files;
import java.nio.file.Path;
import java.util.Comparator;
import java.util.TreeSet;
import java.util.regex.Matcher;
import java.util.regex.Pattern;
import java.util.stream.Stream;

/**
 * What README.md says is so: its examples are compiled and answer as they say, its commands run and print what it says.
 * All is made in a directory of its own, which has the project's src and the shared documents where the project has them.
 */
public final class ReadmeTest {
  private static final Pattern BLOCK = Pattern.compile("(?s)```(\\w+)\n(.*?)```\n");
  private static final Pattern PROGRAM = Pattern.compile("public class (\\w+)");
  /** A line of an example: a variable, if it makes one; what is asked; the answer; the constants that it is told by. */
  private static final Pattern ASKED =
      Pattern.compile("(?:(?:int|long) (\\w+) = )?(.+); *// (-?\\d+)(?: \\(([A-Z]+(?: \\+ [A-Z]+)?)\\))?(?:: .+)?");
  private static final Pattern CONSTANT = Pattern.compile("\\| `(\\w+)` \\| (-?\\d+) \\|");
  private static final String HEAD = "class Examples {\n"
      + "static void due(String line, long got, long want) {\n"
      + "if (got != want) { System.out.println(\"README.md: \" + line + \" <- but it is \" + got); }\n"
      + "}\n"
      + "public static void main(String[] args) {\n";
  private static final TreeSet<String> SHOWN = new TreeSet<>();
  private static final StringBuilder EXAMPLES = new StringBuilder(HEAD);
  private static int answers = 0;
  private static int wrong = 0;

  private static void check(boolean ok, String what) {
    if (!ok) {
      wrong++;
      System.out.println(what);
    }
  }

  public static void main(String[] args) throws IOException, InterruptedException, ReflectiveOperationException {
    Watch.start();
    String text = Files.readString(Path.of("README.md"));
    Path scratch = Files.createTempDirectory("readme");
    try {
      Path place = makePlace(scratch);
      followBlocks(text, place);
      runExamples(place);
    } finally {
      remove(scratch);
    }
    checkConstants(text);
    checkAllShown();
    check(text.contains("at most 512 calls"), "for how many calls an object is used is not said");
    System.out.println("README.md: " + answers + " answers, " + wrong + " wrong");
    if (wrong != 0) {
      System.exit(1);
    }
  }

  private static Path makePlace(Path scratch) throws IOException {
    Path place = Files.createDirectory(scratch.resolve("main"));
    Files.createSymbolicLink(place.resolve("src"), Path.of("src").toRealPath());
    Files.createSymbolicLink(scratch.resolve("shared"), Path.of("../shared").toRealPath());
    return place;
  }

  private static void remove(Path scratch) throws IOException {
    try (Stream<Path> all = Files.walk(scratch)) {
      for (Path path : all.sorted(Comparator.reverseOrder()).toList()) {
        Files.delete(path);
      }
    }
  }

  private static void followBlocks(String text, Path place) throws IOException, InterruptedException {
    Matcher block = BLOCK.matcher(text);
    String printed = "";
    while (block.find()) {
      String inside = block.group(2);
      switch (block.group(1)) {
        case "java" -> takeJava(inside, place);
        case "sh" -> printed = follow(inside, place);
        case "text" -> check(printed.equals(inside), "README.md: printed is\n" + inside + "<- but it is\n" + printed);
        default -> check(false, "README.md: a block of another kind: " + block.group(1));
      }
    }
  }

  private static void takeJava(String inside, Path place) throws IOException {
    Matcher program = PROGRAM.matcher(inside);
    if (program.find()) {
      Files.writeString(place.resolve(program.group(1) + ".java"), inside);
    } else {
      takeExample(inside);
    }
  }

  /** Makes the example a part of a program that prints each line that answers otherwise than it says. */
  private static void takeExample(String inside) {
    check(inside.startsWith("OneCan can = new OneCan();\n"), "README.md: an example without an object of its own:\n" + inside);
    EXAMPLES.append("{\n");
    for (String line : inside.split("\n")) {
      Matcher asked = ASKED.matcher(line);
      if (asked.matches()) {
        takeAnswer(line, asked);
      } else {
        check(!line.contains("can.") || line.startsWith("for ("), "README.md: an example without its answer: " + line);
        EXAMPLES.append(line).append('\n');
      }
    }
    EXAMPLES.append("}\n");
  }

  private static void takeAnswer(String line, Matcher asked) {
    String variable = asked.group(1);
    String call = asked.group(2);
    String constants = asked.group(4);
    Matcher named = Pattern.compile("can\\.(\\w+)\\(").matcher(call);
    if (named.find()) {
      SHOWN.add(named.group(1));
    }
    if (variable != null) {
      EXAMPLES.append(line).append('\n');
    }
    takeDue(line, variable == null ? call : variable, asked.group(3));
    if (constants != null) {
      takeDue(line, constants.replaceAll("[A-Z]+", "OneCan.$0"), asked.group(3));
    }
    answers++;
  }

  private static void takeDue(String line, String got, String want) {
    String words = line.replace("\\", "\\\\").replace("\"", "\\\"");
    EXAMPLES.append("due(\"").append(words).append("\", ").append(got).append(", ").append(want).append("L);\n");
  }

  private static void runExamples(Path place) throws IOException, InterruptedException {
    Files.writeString(place.resolve("Examples.java"), EXAMPLES + "}\n}\n");
    String printed = follow("javac -d examples src/main/java/OneCan.java Examples.java\njava -cp examples Examples\n", place);
    check(printed.isEmpty(), printed);
  }

  /** What the commands print. .ci/run is not run again here, for it runs this test. */
  private static String follow(String commands, Path place) throws IOException, InterruptedException {
    if (commands.equals(".ci/run\n")) {
      check(Files.isExecutable(Path.of(".ci/run")), ".ci/run can not be run");
      return "";
    }
    Process process = new ProcessBuilder("sh", "-e", "-c", commands).directory(place.toFile())
        .redirectError(ProcessBuilder.Redirect.INHERIT).start();
    process.getOutputStream().close();
    String printed = new String(process.getInputStream().readAllBytes(), StandardCharsets.UTF_8);
    int code = process.waitFor();
    check(code == 0, "README.md: exit code " + code + " of\n" + commands + printed);
    return printed;
  }

  private static void checkConstants(String text) throws ReflectiveOperationException {
    TreeSet<String> told = new TreeSet<>();
    Matcher row = CONSTANT.matcher(text);
    while (row.find()) {
      told.add(row.group(1));
      int value = OneCan.class.getField(row.group(1)).getInt(null);
      check(value == Integer.parseInt(row.group(2)), "README.md: " + row.group() + " <- but it is " + value);
    }
    check(told.toString().equals("[FULL, NO, NONE, OUTSIDE, STATE, UNKNOWN]"), "README.md: constants told of: " + told);
    check(text.contains("`GONE` (" + OneCan.GONE + ")"), "README.md: the value of GONE");
  }

  private static void checkAllShown() {
    for (Method m : OneCan.class.getDeclaredMethods()) {
      if (Modifier.isPublic(m.getModifiers()) && !m.isSynthetic()) {
        check(SHOWN.contains(m.getName()), "README.md: no example of " + m.getName());
      }
    }
  }
}
