import java.util.ArrayList;
import java.util.Arrays;
import java.util.LinkedHashSet;
import java.util.List;
import java.util.Set;

/**
 * Runs of calls, written as text, for the sentences of the document. The steps are parted by ';':
 *
 *   type abc              appends each of the characters, and each must be taken
 *   addEntry 1 0 10 = 0   a call and the answer that is due
 *   setInput              a call that must not be refused
 *
 * Beside the answers that a script names, three things are looked at behind each of its steps, by asking
 * new objects that have had the same calls:
 * a question and a refused call change nothing; undo restores what was before each edit and leaves the
 * text buffer alone; and it tells how many edits can still be undone.
 */
final class Script {
  private static final int LAST_CALL = 512;
  private static final int LONGEST_PROBE = 150;
  private static final int MOST_EDITS = 6;
  private static final int MOST_TEXTS = 8;
  private static final Set<String> QUESTIONS = Set.of("entryCount", "wordOf", "costOf", "useCount",
      "entriesWithPrefix", "inputLength", "segmentsAt", "pathCount", "pathCost", "segmentCount", "segmentStart",
      "segmentEntry", "bestThrough", "boundaryInBest", "bestCount");
  private static final Set<String> EDITS = Set.of("addEntry", "removeEntry", "setConnection", "setUnknownCost",
      "setInput", "setConstraint", "choose", "forget");

  private static int sentences = 0;
  private static int wrong = 0;

  private record Step(String method, int[] arguments, Integer due) {
    @Override
    public String toString() {
      String inside = Arrays.toString(arguments);
      return method + "(" + inside.substring(1, inside.length() - 1) + ")";
    }
  }

  private record Answer(Step step, int got) {
  }

  private final String sentence;
  private final List<Step> steps = new ArrayList<>();
  private final Set<String> texts = new LinkedHashSet<>();
  private final List<Integer> answers = new ArrayList<>();

  private Script(String sentence) {
    this.sentence = sentence;
  }

  // ---- what the tests use

  /** The place and the words of the document, and the steps that would go wrong if they were broken. */
  static void sentence(String words, String... parts) {
    sentences++;
    Script script = new Script(words);
    for (String part : parts) {
      script.parse(part);
    }
    script.run();
    script.compareNeighbours();
  }

  static String times(int count, String part) {
    return (part + "; ").repeat(count);
  }

  static String letters(int count, char letter) {
    return String.valueOf(letter).repeat(count);
  }

  /** Entries with this reading and the words from first to last, all of class 0 and of the same cost. */
  static String entries(String reading, int first, int last, int cost) {
    StringBuilder all = new StringBuilder();
    for (int word = first; word <= last; word++) {
      all.append("type ").append(reading).append("; addEntry ").append(word).append(" 0 ").append(cost).append("; ");
    }
    return all.toString();
  }

  static String input(String letters) {
    return "clearText; " + (letters.isEmpty() ? "" : "type " + letters + "; ") + "setInput = " + letters.length() + "; ";
  }

  /** The path with this rank, as in path(0, 40, "0:3 2:-5"): its cost, then starts and entries. */
  static String path(int rank, int cost, String segments) {
    String[] parts = segments.isEmpty() ? new String[0] : segments.split(" ");
    StringBuilder all = new StringBuilder("pathCost " + rank + " = " + cost + "; ");
    all.append("segmentCount ").append(rank).append(" = ").append(parts.length).append("; ");
    for (int i = 0; i < parts.length; i++) {
      String[] segment = parts[i].split(":");
      all.append("segmentStart ").append(rank).append(' ').append(i).append(" = ").append(segment[0]).append("; ");
      all.append("segmentEntry ").append(rank).append(' ').append(i).append(" = ").append(segment[1]).append("; ");
    }
    return all.toString();
  }

  static void finish() {
    System.out.println(wrong == 0 ? sentences + " sentences hold" : wrong + " answers are not as due");
    if (wrong != 0) {
      System.exit(1);
    }
  }

  // ---- reading a script

  private void parse(String part) {
    for (String text : part.split(";")) {
      String step = text.trim();
      if (step.startsWith("type ")) {
        parseTyping(step.substring("type ".length()));
      } else if (!step.isEmpty()) {
        steps.add(parseCall(step));
      }
    }
  }

  private void parseTyping(String text) {
    if (text.length() <= 6 && texts.size() < MOST_TEXTS) {
      texts.add(text);
    }
    for (char code : text.toCharArray()) {
      steps.add(step("appendCharacter", code));
    }
  }

  private static Step parseCall(String text) {
    String[] sides = text.split("=");
    String[] words = sides[0].trim().split(" +");
    int[] arguments = new int[words.length - 1];
    for (int i = 0; i < arguments.length; i++) {
      arguments[i] = Integer.parseInt(words[i + 1]);
    }
    return new Step(words[0], arguments, sides.length == 1 ? null : Integer.valueOf(sides[1].trim()));
  }

  private static Step step(String method, int... arguments) {
    return new Step(method, arguments, null);
  }

  // ---- the calls

  private static int call(ReadingConverter x, Step step) {
    int[] all = step.arguments();
    switch (all.length) {
      case 0: return callWithout(x, step.method());
      case 1: return callWithOne(x, step.method(), all[0]);
      case 2: return callWithTwo(x, step.method(), all[0], all[1]);
      default: return callWithThree(x, step.method(), all[0], all[1], all[2]);
    }
  }

  private static int callWithout(ReadingConverter x, String method) {
    switch (method) {
      case "clearText": return x.clearText();
      case "entryCount": return x.entryCount();
      case "entriesWithPrefix": return x.entriesWithPrefix();
      case "setInput": return x.setInput();
      case "inputLength": return x.inputLength();
      case "pathCount": return x.pathCount();
      case "bestCount": return x.bestCount();
      case "forget": return x.forget();
      case "undo": return x.undo();
      default: throw new IllegalArgumentException(method);
    }
  }

  private static int callWithOne(ReadingConverter x, String method, int a) {
    switch (method) {
      case "appendCharacter": return x.appendCharacter(a);
      case "removeEntry": return x.removeEntry(a);
      case "wordOf": return x.wordOf(a);
      case "costOf": return x.costOf(a);
      case "useCount": return x.useCount(a);
      case "setUnknownCost": return x.setUnknownCost(a);
      case "segmentsAt": return x.segmentsAt(a);
      case "pathCost": return x.pathCost(a);
      case "segmentCount": return x.segmentCount(a);
      case "boundaryInBest": return x.boundaryInBest(a);
      case "choose": return x.choose(a);
      default: throw new IllegalArgumentException(method);
    }
  }

  private static int callWithTwo(ReadingConverter x, String method, int a, int b) {
    switch (method) {
      case "setConstraint": return x.setConstraint(a, b);
      case "segmentStart": return x.segmentStart(a, b);
      case "segmentEntry": return x.segmentEntry(a, b);
      case "bestThrough": return x.bestThrough(a, b);
      default: throw new IllegalArgumentException(method);
    }
  }

  private static int callWithThree(ReadingConverter x, String method, int a, int b, int c) {
    switch (method) {
      case "addEntry": return x.addEntry(a, b, c);
      case "setConnection": return x.setConnection(a, b, c);
      default: throw new IllegalArgumentException(method);
    }
  }

  // ---- the answers that the script names

  private void report(String what) {
    wrong++;
    if (wrong <= 40) {
      System.out.println(sentence + "\n    " + what);
    }
  }

  private void run() {
    if (steps.size() > LAST_CALL) {
      report("the script has " + steps.size() + " calls, and nothing is promised beyond " + LAST_CALL);
    }
    ReadingConverter x = new ReadingConverter();
    for (int i = 0; i < steps.size(); i++) {
      Step step = steps.get(i);
      int got = call(x, step);
      answers.add(got);
      if (step.due() == null ? isRefused(step, got) : got != step.due()) {
        String due = step.due() == null ? "no error" : step.due().toString();
        report("call " + i + ", " + step + " answered " + got + ", due is " + due);
      }
    }
  }

  private static boolean isRefused(Step step, int got) {
    return got < 0 && !(QUESTIONS.contains(step.method()) && (got == -9 || got == -5));
  }

  // ---- what stands behind each step

  private void compareNeighbours() {
    int edits = 0;
    List<List<Answer>> before = statesBehind(0, edits);
    List<Answer> textBefore = textBehind(0, 0);
    for (int i = 0; i < steps.size() && i + 1 + LONGEST_PROBE <= LAST_CALL; i++) {
      Step step = steps.get(i);
      boolean refused = isRefused(step, answers.get(i));
      boolean edit = EDITS.contains(step.method()) && !refused;
      boolean undone = step.method().equals("undo") && !refused;
      edits = edit ? Math.min(edits + 1, MOST_EDITS) : undone ? edits - 1 : edits;
      List<List<Answer>> behind = statesBehind(i + 1, edits);
      List<Answer> textBehind = textBehind(i + 1, 0);
      int from = undone ? 1 : 0;
      int to = edit ? 1 : 0;
      for (int level = 0; level + from < before.size() && level + to < behind.size(); level++) {
        compare(i, level + to, before.get(level + from), behind.get(level + to));
      }
      if (refused || QUESTIONS.contains(step.method()) || undone) {
        compare(i, 0, textBefore, textBehind);
      }
      if (edit) {
        compare(i, 1, textBehind, textBehind(i + 1, 1));
      }
      before = behind;
      textBefore = textBehind;
    }
  }

  private void compare(int call, int undone, List<Answer> before, List<Answer> behind) {
    for (int i = 0; i < Math.max(before.size(), behind.size()); i++) {
      Answer old = i < before.size() ? before.get(i) : null;
      Answer now = i < behind.size() ? behind.get(i) : null;
      if (old == null || now == null || old.got() != now.got()) {
        report("behind call " + call + ", " + steps.get(call) + " = " + answers.get(call) + ", and " + undone
            + " times undo: " + now + ", but before it: " + old);
        return;
      }
    }
  }

  /** A new object that has had the first calls of the script, and then undo so many times. */
  private ReadingConverter replay(int calls, int undone) {
    ReadingConverter x = new ReadingConverter();
    for (int i = 0; i < calls; i++) {
      call(x, steps.get(i));
    }
    for (int i = 0; i < undone; i++) {
      x.undo();
    }
    return x;
  }

  /** The state behind the first calls, and behind each undo that is possible there. */
  private List<List<Answer>> statesBehind(int calls, int edits) {
    dueUndos(calls, edits);
    List<List<Answer>> all = new ArrayList<>();
    for (int undone = 0; undone <= edits; undone++) {
      List<Answer> state = new ArrayList<>();
      askEntries(replay(calls, undone), state);
      askPaths(replay(calls, undone), state);
      askCosts(replay(calls, undone), state);
      all.add(state);
    }
    return all;
  }

  private void dueUndos(int calls, int edits) {
    ReadingConverter x = replay(calls, 0);
    for (int left = edits - 1; left >= -1; left--) {
      int got = x.undo();
      int due = left < 0 ? -2 : left;
      if (got != due) {
        report("behind call " + (calls - 1) + ", undo() answered " + got + ", due is " + due);
      }
    }
  }

  private static int ask(ReadingConverter x, List<Answer> into, String method, int... arguments) {
    Step step = step(method, arguments);
    int got = call(x, step);
    into.add(new Answer(step, got));
    return got;
  }

  private void askEntries(ReadingConverter x, List<Answer> into) {
    int count = ask(x, into, "entryCount");
    for (int entry = 0; entry < count; entry++) {
      ask(x, into, "wordOf", entry);
      ask(x, into, "costOf", entry);
      ask(x, into, "useCount", entry);
    }
    for (String text : texts) {
      x.clearText();
      for (char code : text.toCharArray()) {
        x.appendCharacter(code);
      }
      ask(x, into, "entriesWithPrefix");
    }
  }

  private static void askPaths(ReadingConverter x, List<Answer> into) {
    int length = ask(x, into, "inputLength");
    for (int gap = 0; gap <= length; gap++) {
      ask(x, into, "segmentsAt", gap);
      ask(x, into, "boundaryInBest", gap);
    }
    ask(x, into, "pathCount");
    ask(x, into, "bestCount");
    for (int rank = 0; rank < 20; rank++) {
      ask(x, into, "pathCost", rank);
    }
    for (int rank = 0; rank < 20; rank += 6) {
      int segments = ask(x, into, "segmentCount", rank);
      for (int i = 0; i < segments; i++) {
        ask(x, into, "segmentEntry", rank, i);
      }
    }
  }

  /** Edits tell what was before; with a cost of its own for each pair, the paths then tell the classes. */
  private static void askCosts(ReadingConverter x, List<Answer> into) {
    ask(x, into, "setUnknownCost", 50);
    for (int left = 0; left <= 6; left++) {
      for (int right = 0; right <= 6; right++) {
        ask(x, into, "setConnection", left, right, left * 7 + right);
      }
    }
    for (int rank = 0; rank < 20; rank++) {
      ask(x, into, "pathCost", rank);
    }
    int length = x.inputLength();
    for (int gap = 1; gap < length; gap++) {
      ask(x, into, "setConstraint", gap, 0);
    }
  }

  /** The length of the text; and its letters, if it can be an input, each by an entry with this letter. */
  private List<Answer> textBehind(int calls, int undone) {
    ReadingConverter x = replay(calls, undone);
    List<Answer> into = new ArrayList<>();
    int length = ask(x, into, "setInput");
    ask(x, into, "clearText");
    for (int left = x.entryCount(); left > 0; left--) {
      x.removeEntry(left - 1);
    }
    for (int i = 0; i < 20; i++) {
      x.appendCharacter("abcdefghijklmnopxyzq".charAt(i));
      x.addEntry(0, 0, 0);
    }
    x.setUnknownCost(200);
    for (int i = 0; i < length; i++) {
      ask(x, into, "segmentEntry", 0, i);
    }
    return into;
  }
}
