import java.util.ArrayList;
import java.util.List;

/**
 * Plays tables of calls on new objects. A line is a call, its arguments, '=' and the answer that is
 * due; 'all' stands for told(0) to told(17). Empty lines and lines from '#' on are passed over.
 */
final class Runs {
  private static int asked = 0;
  private static int wrong = 0;

  private Runs() {}

  static void due(String call, long got, long want) {
    asked++;
    if (got == want) return;
    wrong++;
    System.out.println(call + " answered " + got + ", due is " + want);
  }

  /** Plays a table on a new object, and hands that object on. */
  static TurnedFields play(String name, String table) {
    TurnedFields x = new TurnedFields();
    int line = 0;
    for (String text : table.split("\n")) {
      line++;
      String row = text.strip();
      if (row.isEmpty() || row.startsWith("#")) continue;
      String[] sides = row.split("=");
      if (sides.length != 2) throw new IllegalStateException("no answer in: " + row);
      String where = name + ", line " + line + ": " + sides[0].strip();
      List<Integer> want = numbers(sides[1].strip().split(" +"), 0);
      List<Integer> got = answers(x, sides[0].strip().split(" +"));
      due(where + " (answers)", got.size(), want.size());
      for (int i = 0; i < Math.min(got.size(), want.size()); i++) {
        due(got.size() == 1 ? where : where + " at " + i, got.get(i), want.get(i));
      }
    }
    return x;
  }

  private static List<Integer> answers(TurnedFields x, String[] words) {
    List<Integer> answers = new ArrayList<>();
    if (words[0].equals("all")) {
      for (int what = 0; what <= 17; what++) answers.add(x.told(what));
    } else {
      answers.add(answer(x, words[0], numbers(words, 1)));
    }
    return answers;
  }

  static int answer(TurnedFields x, String call, List<Integer> a) {
    switch (call) {
      case "sine": return x.sine(a.get(0));
      case "turned": return x.turned(a.get(0), a.get(1), a.get(2), a.get(3));
      case "back": return x.back(a.get(0), a.get(1), a.get(2), a.get(3));
      case "times": return x.times(a.get(0), a.get(1), a.get(2));
      case "rule": return x.rule(a.get(0), a.get(1));
      case "gain": return x.gain(a.get(0), a.get(1), a.get(2));
      case "lose": return x.lose(a.get(0) == 1);
      case "order": return x.order(a.get(0));
      case "beat": return x.beat(a.get(0));
      case "told": return x.told(a.get(0));
      case "ring": return x.ring(a.get(0), a.get(1));
      case "loop": return x.loop(a.get(0), a.get(1), a.get(2), a.get(3), a.get(4), a.get(5));
      case "digest": return x.digest();
      default: throw new IllegalStateException("no such call: " + call);
    }
  }

  private static List<Integer> numbers(String[] words, int from) {
    List<Integer> numbers = new ArrayList<>();
    for (int i = from; i < words.length; i++) numbers.add(number(words[i]));
    return numbers;
  }

  static int number(String word) {
    switch (word) {
      // Written out here, so that a wrong constant of the class does not hide itself.
      case "NONE": return -1;
      case "OUTSIDE": return -1000001;
      case "NOT": return -1000002;
      case "LEAST": return Integer.MIN_VALUE;
      case "GREATEST": return Integer.MAX_VALUE;
      default: return Integer.parseInt(word);
    }
  }

  static void end() {
    System.out.println(asked + " answers, " + wrong + " not as due");
    if (wrong != 0) System.exit(1);
  }
}
