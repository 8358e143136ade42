import java.io.IOException;
import java.lang.reflect.Constructor;
import java.lang.reflect.Field;
import java.lang.reflect.Method;
import java.lang.reflect.Modifier;
import java.nio.file.Files;
import java.nio.file.Path;
import java.util.Arrays;
import java.util.List;
import java.util.Set;
import java.util.TreeSet;
import java.util.regex.Matcher;
import java.util.regex.Pattern;

// The public face as the document has it, and those rules of LANGUAGE.md that can be seen in the text of the program.
public final class FaceAndRules {
  private static int wrong = 0;

  private static void check(boolean good, String what) {
    if (!good) { wrong++; System.out.println("not as due: " + what); }
  }

  private static final String[] FACE = {
    "lay(int,int)", "setKind(int,int)", "setWell(int,boolean)", "set(int,int)",
    "go(int)", "write(int)", "take(int)", "put(int)", "drop(int)", "reset()", "seal()", "clean()", "dusk()",
    "type(char)", "clearText()", "perform()", "undo()", "keep()", "restore()",
    "zone(int,int)", "slot(int,int,int)", "load(int,int)", "scan(int)", "caravan(int)", "bagAt(int)", "waterTo(int)",
    "worst()", "nearestFor(int)", "count(int)",
  };
  private static final List<String> CONSTANTS = List.of("UNKNOWN", "BAD_VALUE", "FULL", "NOT_POSSIBLE", "NONE", "DRY");

  private static String signature(Method method) {
    StringBuilder text = new StringBuilder(method.getName()).append('(');
    for (Class<?> type : method.getParameterTypes()) {
      if (text.charAt(text.length() - 1) != '(') { text.append(','); }
      text.append(type.getName());
    }
    return text.append(')').toString();
  }

  private static void face() throws IllegalAccessException {
    Class<?> type = CaravanZones.class;
    check(type.getModifiers() == (Modifier.PUBLIC | Modifier.FINAL), "public final class");
    Constructor<?>[] constructors = type.getDeclaredConstructors();
    check(constructors.length == 1 && constructors[0].getParameterCount() == 0
        && Modifier.isPublic(constructors[0].getModifiers()), "one public constructor");
    Set<String> found = new TreeSet<>();
    for (Method method : type.getDeclaredMethods()) {
      if (Modifier.isPrivate(method.getModifiers())) { continue; }
      check(method.getReturnType() == int.class && method.getModifiers() == Modifier.PUBLIC, method.toString());
      found.add(signature(method));
    }
    check(found.equals(new TreeSet<>(Arrays.asList(FACE))), "methods " + found);
    for (Field field : type.getDeclaredFields()) {
      if (Modifier.isPrivate(field.getModifiers())) { continue; }
      check(field.getModifiers() == (Modifier.PUBLIC | Modifier.STATIC | Modifier.FINAL)
          && field.getType() == int.class
          && CONSTANTS.indexOf(field.getName()) == -1 - field.getInt(null), field.toString());
    }
    check(type.getFields().length == CONSTANTS.size(), "six constants");
  }

  private static void inside() {
    Set<String> publicNames = new TreeSet<>();
    for (String method : FACE) { publicNames.add(method.substring(0, method.indexOf('('))); }
    Class<?>[] classes = CaravanZones.class.getDeclaredClasses();
    check(classes.length <= 11, "some twelve classes");
    for (Class<?> nested : classes) {
      check(Modifier.isStatic(nested.getModifiers()) && !Modifier.isPublic(nested.getModifiers()), nested.toString());
      check(nested.getDeclaredClasses().length == 0, "no classes inside of " + nested);
      int fields = 0;
      for (Field field : nested.getDeclaredFields()) {
        boolean isStatic = Modifier.isStatic(field.getModifiers());
        check(!isStatic || Modifier.isFinal(field.getModifiers()), field.toString());
        if (!isStatic) { fields++; }
      }
      check(fields <= 20, "some twenty fields in " + nested);
      for (Method method : nested.getDeclaredMethods()) {
        check(!publicNames.contains(method.getName()), method.toString());
        check(method.getParameterCount() <= 7, method.toString());
      }
    }
  }

  /** The program without its comments and the signs that it names. */
  private static String code() throws IOException {
    String text = Files.readString(Path.of("src/main/java/CaravanZones.java"));
    for (int i = 0; i < text.length(); i++) {
      if (text.charAt(i) < 1 || text.charAt(i) > 127) { check(false, "a sign above 127 at " + i); }
    }
    return text.replaceAll("(?s)/\\*.*?\\*/", "").replaceAll("//[^\n]*", "").replaceAll("'[^']*'", "' '");
  }

  private static void words() throws IOException {
    String code = code();
    String[] banned = {"throw", "throws", "try", "catch", "finally", "synchronized", "assert", "import", "package",
      "volatile", "native", "Object", "System\\.(?!arraycopy)", "Thread", "Random", "equals", "hashCode", "toString",
      "record", "protected", "\\w+Exact", "Exception"};
    for (String word : banned) { check(!Pattern.compile("\\b" + word + "\\b").matcher(code).find(), "the word " + word); }
    for (String sign : new String[] {"->", "::", "\"", "@"}) { check(!code.contains(sign), "the sign " + sign); }
    Matcher library = Pattern.compile("\\b(Math|Integer|Long|System|Arrays)\\.(\\w+)").matcher(code);
    Set<String> allowed = Set.of("Math.min", "Math.max");
    while (library.find()) { check(allowed.contains(library.group()), library.group()); }
  }

  public static void main(String[] args) throws Exception {
    face();
    inside();
    words();
    System.out.println(wrong == 0 ? "FaceAndRules: all is as due" : "FaceAndRules: " + wrong + " things are not as due");
    if (wrong != 0) { System.exit(1); }
  }
}
