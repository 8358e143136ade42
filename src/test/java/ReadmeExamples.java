import java.io.IOException;
import java.nio.file.Files;
import java.nio.file.Path;
import java.util.regex.Matcher;
import java.util.regex.Pattern;

/** Plays the examples of README.md: who copies a line from there must get the answer that its comment begins with. */
public final class ReadmeExamples {
  private static final Pattern NEW = Pattern.compile("CaravanZones road = new CaravanZones\\(\\); *(//.*)?");
  private static final Pattern TYPED = Pattern.compile("for \\(char sign : \"(.*)\"\\.toCharArray\\(\\)\\) \\{ road\\.type\\(sign\\); \\}");
  private static final Pattern CALL = Pattern.compile("road\\.(\\w+\\(.*\\)); +// (-?[0-9]+|[A-Z_]+)([ :,].*)?");

  private static int wrong = 0;
  private static int played = 0;
  private static Taped road;

  private static void check(boolean good, String what) {
    if (!good) { wrong++; System.out.println("not as due: " + what); }
  }

  private static void play(String line) {
    Matcher typed = TYPED.matcher(line);
    Matcher call = CALL.matcher(line);
    if (NEW.matcher(line).matches()) {
      road = new Taped();
    } else if (road == null) {
      check(false, "no object is made before: " + line);
    } else if (typed.matches()) {
      for (char sign : typed.group(1).toCharArray()) { road.type(sign); }
    } else if (call.matches()) {
      int answer = Sentences.answer(road, call.group(1).replace(" ", ""));
      check(answer == Sentences.number(call.group(2)), line + " answered " + answer);
      played++;
    } else {
      check(false, "not to be read: " + line);
    }
  }

  private static void playAll(String text) {
    boolean isExample = false;
    for (String line : text.split("\n")) {
      if (line.startsWith("```")) {
        isExample = line.equals("```java");
        road = null;
      } else if (isExample) {
        play(line);
      }
    }
    check(played >= 10, "only " + played + " calls are shown");
  }

  private static void names(String text) throws IllegalAccessException {
    for (var method : CaravanZones.class.getMethods()) {
      if (method.getDeclaringClass() == CaravanZones.class) {
        check(text.contains("`" + method.getName() + "("), method.getName() + " is not named");
      }
    }
    for (var constant : CaravanZones.class.getFields()) {
      String row = "| `CaravanZones." + constant.getName() + "` | " + constant.getInt(null) + " | ";
      check(text.contains(row), "there is no row " + row);
    }
    check(text.contains(".ci/run"), "how to run the tests is not said");
  }

  private static void tests(String text) throws IOException {
    try (var files = Files.list(Path.of("src/test/java"))) {
      for (Path file : files.toList()) { check(text.contains("`" + file + "`"), file + " is not named"); }
    }
  }

  public static void main(String[] args) throws Exception {
    String text = Files.readString(Path.of("README.md"));
    playAll(text);
    names(text);
    tests(text);
    System.out.println(wrong == 0 ? "ReadmeExamples: all is as due" : "ReadmeExamples: " + wrong + " things are not as due");
    if (wrong != 0) { System.exit(1); }
  }
}
