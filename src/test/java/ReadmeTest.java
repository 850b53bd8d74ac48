import java.io.IOException;
import java.nio.file.Files;
import java.nio.file.Path;
import java.util.ArrayList;
import java.util.List;
import java.util.Set;
import java.util.TreeSet;
import java.util.regex.Matcher;
import java.util.regex.Pattern;

/** Each answer that README.md gives in an example is the one that the class gives. */
public final class ReadmeTest {
  private static final String NEW_OBJECT = "TurnedFields x = new TurnedFields();";
  // A call, and behind // its answer, with words or without.
  private static final Pattern CALL = Pattern.compile("x\\.(\\w+)\\((.*)\\);\\s*// ([A-Z]+|-?\\d+)(:.*)?");
  private static final Set<String> CALLS = Set.of("sine", "turned", "back", "times", "rule", "gain",
      "lose", "order", "beat", "told", "ring", "loop", "digest");

  private final Set<String> shown = new TreeSet<>();
  private TurnedFields x = null;

  public static void main(String[] args) throws IOException {
    new ReadmeTest().all(Files.readAllLines(Path.of("README.md")));
    Runs.end();
  }

  private void all(List<String> lines) {
    boolean inExample = false;
    for (int i = 0; i < lines.size(); i++) {
      String line = lines.get(i).strip();
      if (line.startsWith("```")) {
        inExample = line.equals("```java");
        x = null;
      } else if (inExample) {
        play("README.md, line " + (i + 1) + ": " + line, line);
      }
    }
    for (String call : CALLS) Runs.due(call + " has an example", shown.contains(call) ? 1 : 0, 1);
  }

  private void play(String where, String line) {
    if (line.equals(NEW_OBJECT)) {
      x = new TurnedFields();
      return;
    }
    Matcher call = CALL.matcher(line);
    // An answer that can't be read here would be one that is not held to.
    boolean readable = x != null && call.matches();
    Runs.due(where + " (a call of an object, with its answer)", readable ? 1 : 0, 1);
    if (!readable) return;
    shown.add(call.group(1));
    Runs.due(where, Runs.answer(x, call.group(1), numbers(call.group(2))), Runs.number(call.group(3)));
  }

  private static List<Integer> numbers(String words) {
    List<Integer> numbers = new ArrayList<>();
    if (words.isBlank()) return numbers;
    for (String word : words.split(",")) {
      String plain = word.strip();
      numbers.add(plain.equals("true") ? 1 : plain.equals("false") ? 0 : Runs.number(plain));
    }
    return numbers;
  }
}
