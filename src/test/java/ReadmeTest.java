import java.nio.file.Files;
import java.nio.file.Path;
import java.util.regex.Matcher;
import java.util.regex.Pattern;
import javax.tools.ToolProvider;

/** README.md says how to use the class: its examples are one program, whose answers are those written. */
public final class ReadmeTest {
  private static final Pattern BLOCK = Pattern.compile("```java\n(.*?)```", Pattern.DOTALL);
  private static final Pattern ASKED = Pattern.compile("(table\\..*);\\s+// ([^\\s:]+)(?::.*)?");

  public static void main(String[] args) throws Exception {
    String readme = Files.readString(Path.of("README.md"));
    shows(readme);
    // The folder of the classes is one that .ci/run makes for this test and takes away.
    String classes = System.getProperty("java.class.path");
    Path file = Path.of(classes, "ReadmeExamples.java");
    Files.writeString(file, program(readme));
    int failed = ToolProvider.getSystemJavaCompiler().run(
        null, null, null, "-cp", classes, "-d", classes, file.toString());
    Expect.same("README: the examples compile", failed, 0);
    if (failed == 0) {
      Class.forName("ReadmeExamples").getDeclaredMethod("main").invoke(null);
    }
    Expect.finish("ReadmeTest");
  }

  /** What a reader has to find: how the tests are run, and each act of a hero. */
  private static void shows(String readme) {
    String[] due = {".ci/run", ".attack(", ".step(", ".ready(", ".cast(", ".again(", ".tellDie("};
    for (String word : due) {
      Expect.yes("README holds " + word, readme.contains(word));
    }
  }

  private static String program(String readme) {
    StringBuilder program = new StringBuilder("final class ReadmeExamples { static void main() {\n");
    Matcher block = BLOCK.matcher(readme);
    while (block.find()) {
      for (String line : block.group(1).split("\n")) {
        Matcher asked = ASKED.matcher(line);
        if (asked.matches()) {
          program.append(String.format("Expect.same(\"README: %s\", String.valueOf(%s), \"%s\");\n",
              asked.group(1), asked.group(1), asked.group(2)));
        } else {
          program.append(line).append('\n');
        }
      }
    }
    return program.append("} }\n").toString();
  }
}
