import java.io.IOException;
import java.lang.reflect.Constructor;
import java.lang.reflect.Field;
import java.lang.reflect.Method;
import java.lang.reflect.Modifier;
import java.nio.file.Files;
import java.nio.file.Path;
import java.util.Set;
import java.util.TreeSet;
import java.util.regex.Pattern;

/** The class keeps to the face of the document and to the rules of LANGUAGE.md that can be looked at. */
public final class LanguageTest {
  private static final Set<String> FACE = Set.of(
      "int sine(int)", "int turned(int,int,int,int)", "int back(int,int,int,int)",
      "int times(int,int,int)", "int rule(int,int)", "int gain(int,int,int)", "int lose(boolean)",
      "int order(int)", "int beat(int)", "int told(int)", "int ring(int,int)",
      "int loop(int,int,int,int,int,int)", "int digest()");
  private static final String[] RULED_OUT = {
    "\\bthrow\\b", "\\btry\\b", "\\bcatch\\b", "\\bsynchronized\\b", "\\bassert\\b", "\\bimport\\b",
    "\\bpackage\\b", "->", "::", "Exact\\b", "\\bstatic\\s*\\{", "\\bSystem\\.(?!arraycopy)", "\\bthread\\b"};

  public static void main(String[] args) throws IOException {
    face();
    inside(TurnedFields.class);
    for (Class<?> one : TurnedFields.class.getDeclaredClasses()) {
      Runs.due(one + " is static", Modifier.isStatic(one.getModifiers()) ? 1 : 0, 1);
      Runs.due(one + " is open", one.getModifiers() & (Modifier.PUBLIC | Modifier.PROTECTED), 0);
      inside(one);
    }
    Runs.due("twelve classes at most", TurnedFields.class.getDeclaredClasses().length < 12 ? 1 : 0, 1);
    source();
    Runs.end();
  }

  private static void face() {
    int shape = TurnedFields.class.getModifiers();
    Runs.due("public and final", shape, Modifier.PUBLIC | Modifier.FINAL);
    Set<String> open = new TreeSet<>();
    for (Method one : TurnedFields.class.getDeclaredMethods()) {
      if (!one.isSynthetic() && !Modifier.isPrivate(one.getModifiers())) open.add(signature(one));
    }
    Runs.due("methods that are open: " + open, open.equals(FACE) ? 1 : 0, 1);
    Set<String> constants = new TreeSet<>();
    for (Field one : TurnedFields.class.getDeclaredFields()) {
      if (!Modifier.isPrivate(one.getModifiers())) constants.add(one.getName());
    }
    Runs.due("constants: " + constants, constants.equals(Set.of("NONE", "OUTSIDE", "NOT")) ? 1 : 0, 1);
    Constructor<?>[] makers = TurnedFields.class.getDeclaredConstructors();
    Runs.due("constructors", makers.length, 1);
    Runs.due("its parameters", makers[0].getParameterCount(), 0);
    Runs.due("it is public", makers[0].getModifiers(), Modifier.PUBLIC);
  }

  private static String signature(Method one) {
    StringBuilder text = new StringBuilder();
    for (Class<?> type : one.getParameterTypes()) {
      text.append(text.length() == 0 ? "" : ",").append(type.getName());
    }
    boolean plain = one.getModifiers() == Modifier.PUBLIC && one.getExceptionTypes().length == 0;
    return (plain ? "" : "not plain: ") + one.getReturnType().getName() + " " + one.getName() + "(" + text + ")";
  }

  private static void inside(Class<?> type) {
    int fields = 0;
    for (Field one : type.getDeclaredFields()) {
      boolean fixed = Modifier.isStatic(one.getModifiers());
      if (fixed) Runs.due(one + " is final", Modifier.isFinal(one.getModifiers()) ? 1 : 0, 1);
      else fields++;
    }
    Runs.due(type + " has twenty fields at most", fields <= 20 ? 1 : 0, 1);
    for (Method one : type.getDeclaredMethods()) {
      Runs.due(one + " takes seven at most", one.getParameterCount() <= 7 ? 1 : 0, 1);
      boolean named = Modifier.isPrivate(one.getModifiers()) && isOfTheFace(one.getName());
      Runs.due(one + " is private and bears the name of a public one", named ? 1 : 0, 0);
    }
  }

  private static boolean isOfTheFace(String name) {
    for (String one : FACE) {
      if (one.substring(4, one.indexOf('(')).equals(name)) return true;
    }
    return false;
  }

  private static void source() throws IOException {
    String text = Files.readString(Path.of("src/main/java/TurnedFields.java"));
    String code = text.replaceAll("(?s)/\\*.*?\\*/", " ").replaceAll("//[^\n]*", " ");
    for (String one : RULED_OUT) {
      Runs.due("found in the source: " + one, Pattern.compile(one).matcher(code).find() ? 1 : 0, 0);
    }
  }
}
