import java.io.IOException;
import java.nio.file.Files;
import java.nio.file.Path;
import java.util.ArrayList;
import java.util.List;
import java.util.Set;
import java.util.TreeSet;
import java.util.regex.Matcher;
import java.util.regex.Pattern;

/**
 * Tests of single sentences of the document. Each names the head under which the sentence stands, the sentence,
 * and runs of calls, each run on a new object. A run is a text of calls with a blank between two:
 *
 *   go(3)=3          the call must give this answer (a number, or the name of a constant)
 *   go(3)            its answer must be 0 at least
 *   type(;) type(#0) a character, or its number
 *   <w1;g1>=2        the text is typed in place of the one that is there, and performed
 *   remember, same   the state must be the same here as it was there
 *
 * Around each call that is to be refused (with an error or NONE) all is compared: it must change nothing.
 */
public final class Sentences {
  private static final Path DOCUMENT = Path.of("../shared/DOC.md");

  private final String name;
  private final List<String> tested = new ArrayList<>();
  private int wrong = 0;

  public Sentences(String name) { this.name = name; }

  public void test(String head, String sentence, String... runs) {
    String title = head + " | " + sentence;
    tested.add(title);
    String fault = runs.length == 0 ? "nothing is called" : null;
    for (int i = 0; i < runs.length && fault == null; i++) { fault = fault(runs[i]); }
    if (fault != null) {
      wrong++;
      System.out.println(title);
      System.out.println("    " + fault);
    }
  }

  /** Plays a run on a new object and returns what went wrong, or null. */
  private static String fault(String run) {
    Taped x = new Taped();
    String remembered = null;
    StringBuilder played = new StringBuilder();
    for (String step : run.trim().split(" +")) {
      played.append(' ').append(step);
      String fault = null;
      if (step.equals("remember")) {
        remembered = x.picture();
      } else if (step.equals("same")) {
        fault = x.picture().equals(remembered) ? null : "is not so";
      } else {
        fault = faultOfCall(x, step);
      }
      if (fault != null) { return step + ": " + fault + ", at the end of" + played; }
    }
    return null;
  }

  private static String faultOfCall(Taped x, String step) {
    int equals = step.lastIndexOf('=');
    String call = equals < 0 ? step : step.substring(0, equals);
    if (call.startsWith("<")) {
      x.text(call.substring(1, call.length() - 1));
      call = "perform()";
    }
    if (equals < 0) {
      int answer = answer(x, call);
      return answer < 0 ? "answered " + answer : null;
    }
    int due = number(step.substring(equals + 1));
    String before = due < 0 ? x.whole() : "";
    int answer = answer(x, call);
    if (answer != due) { return "answered " + answer; }
    return due < 0 && !x.whole().equals(before) ? "changed something" : null;
  }

  static int number(String text) {
    switch (text) {
      case "UNKNOWN": return CaravanZones.UNKNOWN;
      case "BAD_VALUE": return CaravanZones.BAD_VALUE;
      case "FULL": return CaravanZones.FULL;
      case "NOT_POSSIBLE": return CaravanZones.NOT_POSSIBLE;
      case "NONE": return CaravanZones.NONE;
      case "DRY": return CaravanZones.DRY;
      case "MIN": return Integer.MIN_VALUE;
      case "MAX": return Integer.MAX_VALUE;
      case "true": return 1;
      case "false": return 0;
      default: return Integer.parseInt(text);
    }
  }

  static int answer(Taped x, String call) {
    String method = call.substring(0, call.indexOf('('));
    String inside = call.substring(call.indexOf('(') + 1, call.length() - 1);
    if (method.equals("type")) {
      return x.type(inside.startsWith("#") ? (char) number(inside.substring(1)) : inside.charAt(0));
    }
    String[] texts = inside.isEmpty() ? new String[0] : inside.split(",");
    int[] a = new int[3];
    for (int i = 0; i < texts.length; i++) { a[i] = number(texts[i]); }
    switch (method + texts.length) {
      case "constant1": return a[0];
      case "lay2": return x.lay(a[0], a[1]);
      case "setKind2": return x.setKind(a[0], a[1]);
      case "setWell2": return x.setWell(a[0], a[1] != 0);
      case "set2": return x.set(a[0], a[1]);
      case "go1": return x.go(a[0]);
      case "write1": return x.write(a[0]);
      case "take1": return x.take(a[0]);
      case "put1": return x.put(a[0]);
      case "drop1": return x.drop(a[0]);
      case "reset0": return x.reset();
      case "seal0": return x.seal();
      case "clean0": return x.clean();
      case "dusk0": return x.dusk();
      case "clearText0": return x.clearText();
      case "perform0": return x.perform();
      case "undo0": return x.undo();
      case "keep0": return x.keep();
      case "restore0": return x.restore();
      case "zone2": return x.zone(a[0], a[1]);
      case "slot3": return x.slot(a[0], a[1], a[2]);
      case "load2": return x.load(a[0], a[1]);
      case "scan1": return x.scan(a[0]);
      case "caravan1": return x.caravan(a[0]);
      case "bagAt1": return x.bagAt(a[0]);
      case "waterTo1": return x.waterTo(a[0]);
      case "worst0": return x.worst();
      case "nearestFor1": return x.nearestFor(a[0]);
      case "count1": return x.count(a[0]);
      default: throw new IllegalArgumentException(call);
    }
  }

  /** Ends the program: with 0 if all was as due, and if each sentence under the heads that were named is tested. */
  public void end() throws IOException {
    if (Files.exists(DOCUMENT)) { compare(sentences()); } else { System.out.println("there is no " + DOCUMENT); }
    System.out.println(name + ": " + new TreeSet<>(tested).size() + " sentences, " + wrong + " do not hold");
    if (wrong != 0) { System.exit(1); }
  }

  private void compare(List<String> written) {
    Set<String> heads = new TreeSet<>();
    for (String title : tested) {
      heads.add(headOf(title));
      if (!written.contains(title)) { wrong++; System.out.println("not in the document: " + title); }
    }
    for (String title : written) {
      if (heads.contains(headOf(title)) && !tested.contains(title)) { wrong++; System.out.println("not tested: " + title); }
    }
  }

  private static String headOf(String title) { return title.substring(0, title.indexOf(" | ")); }

  /** The sentences of the document behind their heads; what it only says of the comments in the interface is left out. */
  private static List<String> sentences() throws IOException {
    List<String> all = new ArrayList<>();
    String head = "";
    for (String line : Files.readAllLines(DOCUMENT)) {
      Matcher section = Pattern.compile("## (Promise \\d+|.*)(: .*)?").matcher(line);
      if (section.matches()) { head = section.group(1).replaceAll(": .*", ""); continue; }
      if (line.matches("[A-Z ]+")) { head = line; continue; }
      if (line.isBlank() || line.startsWith("Ahead of the calls ")) { continue; }
      String text = head.startsWith("Promise") ? line.replaceAll("^`[^`]*`: ", "") : line;
      if (text.startsWith("- ")) { all.add(head + " | " + text); continue; }
      for (String sentence : text.split("(?<=\\.) (?=[A-Z])")) { all.add(head + " | " + sentence); }
    }
    return all;
  }
}
