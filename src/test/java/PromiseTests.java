/** Each promise of the document by itself: ordinary inputs, the edges that it names, and wrong inputs. */
public final class PromiseTests {
  private static final int ARGUMENT = -1;
  private static final int STATE = -2;
  private static final int LIMIT = -3;
  private static final int NONE = -9;
  private static final int UNKNOWN = -5;
  private static final int CAP = 1000000000;
  private static final int LEAST = Integer.MIN_VALUE;
  private static final int MOST = Integer.MAX_VALUE;

  private static int wrong = 0;
  private static int promise = 0;

  private static void due(String what, int got, int want) {
    if (got != want) {
      wrong++;
      System.out.println("promise " + promise + ": " + what + " answered " + got + ", due is " + want);
    }
  }

  // ---- short ways to a state

  private static ReadingConverter fresh() {
    return new ReadingConverter();
  }

  private static void type(ReadingConverter x, String text) {
    x.clearText();
    for (int i = 0; i < text.length(); i++) {
      due("typing " + text, x.appendCharacter(text.charAt(i)), i + 1);
    }
  }

  private static int add(ReadingConverter x, String reading, int word, int itsClass, int cost) {
    type(x, reading);
    return x.addEntry(word, itsClass, cost);
  }

  private static int input(ReadingConverter x, String letters) {
    type(x, letters);
    return x.setInput();
  }

  private static String repeated(String part, int times) {
    return part.repeat(times);
  }

  /** The starts and entries of a path, as in "0:3 2:-5". */
  private static String path(ReadingConverter x, int rank) {
    StringBuilder all = new StringBuilder();
    for (int i = 0; i < x.segmentCount(rank); i++) {
      all.append(i == 0 ? "" : " ").append(x.segmentStart(rank, i)).append(':').append(x.segmentEntry(rank, i));
    }
    return all.toString();
  }

  private static void duePath(ReadingConverter x, int rank, int cost, String want) {
    due("pathCost(" + rank + ")", x.pathCost(rank), cost);
    if (!path(x, rank).equals(want)) {
      wrong++;
      System.out.println("promise " + promise + ": path " + rank + " is " + path(x, rank) + ", due is " + want);
    }
  }

  private static void fillDictionary(ReadingConverter x, String reading) {
    for (int i = 0; i < 20; i++) {
      due("adding entry " + i, add(x, reading, i, i % 5, 10), i);
    }
  }

  // ---- the promises

  private static void newObject() {
    ReadingConverter x = fresh();
    due("undo", x.undo(), STATE);
    due("entryCount", x.entryCount(), 0);
    due("inputLength", x.inputLength(), 0);
    due("entriesWithPrefix", x.entriesWithPrefix(), 0);
    due("pathCount", x.pathCount(), 1);
    duePath(x, 0, 0, "");
    due("clearText", x.clearText(), 0);
    due("setUnknownCost", x.setUnknownCost(7), 100);
    for (int left = 0; left <= 6; left++) {
      for (int right = 0; right <= 6; right++) {
        due("setConnection", x.setConnection(left, right, 1), 0);
      }
    }
    due("another object is not touched", fresh().setUnknownCost(0), 100);
  }

  private static void appendCharacter() {
    ReadingConverter x = fresh();
    int[] outside = {-1, 256, LEAST, MOST};
    for (int code : outside) {
      due("appendCharacter(" + code + ")", x.appendCharacter(code), ARGUMENT);
    }
    due("the least code", x.appendCharacter(0), 1);
    due("the greatest code", x.appendCharacter(255), 2);
    for (int i = 3; i <= 20; i++) {
      due("appendCharacter", x.appendCharacter('a'), i);
    }
    due("the 21st", x.appendCharacter('a'), LIMIT);
    due("out of range in a full buffer", x.appendCharacter(256), ARGUMENT);
    due("out of range in a full buffer", x.appendCharacter(-1), ARGUMENT);
    due("clearText", x.clearText(), 20);
    due("appendCharacter", x.appendCharacter('a'), 1);
    due("it is no edit", x.undo(), STATE);
  }

  private static void clearText() {
    ReadingConverter x = fresh();
    due("empty", x.clearText(), 0);
    type(x, "abc");
    due("three", x.clearText(), 3);
    due("again", x.clearText(), 0);
    due("it is no edit", x.undo(), STATE);
    due("nothing is left for the input", x.setInput(), 0);
  }

  private static void addEntry() {
    ReadingConverter x = fresh();
    due("an empty reading", x.addEntry(0, 0, 0), -10);
    type(x, "ab");
    due("word", x.addEntry(-1, 0, 0), ARGUMENT);
    due("word", x.addEntry(100, 0, 0), ARGUMENT);
    due("class", x.addEntry(0, -1, 0), ARGUMENT);
    due("class", x.addEntry(0, 5, 0), ARGUMENT);
    due("cost", x.addEntry(0, 0, -1), ARGUMENT);
    due("cost", x.addEntry(0, 0, 100), ARGUMENT);
    due("all", x.addEntry(LEAST, MOST, LEAST), ARGUMENT);
    due("the buffer is kept", x.appendCharacter('c'), 3);
    due("no entry so far", x.entryCount(), 0);
    due("no edit so far", x.undo(), STATE);
    due("addEntry", x.addEntry(99, 4, 99), 0);
    due("the buffer is emptied", x.clearText(), 0);
    due("wordOf", x.wordOf(0), 99);
    due("costOf", x.costOf(0), 99);
    due("useCount", x.useCount(0), 0);
    due("the same", add(x, "abc", 99, 4, 1), STATE);
    due("the buffer is kept", x.clearText(), 3);
    due("another word", add(x, "abc", 98, 4, 1), 1);
    due("another class", add(x, "abc", 99, 3, 1), 2);
    due("a shorter reading", add(x, "ab", 99, 4, 1), 3);
    due("a longer reading", add(x, "abcd", 99, 4, 1), 4);
    due("another reading", add(x, "abd", 99, 4, 1), 5);
    due("six letters", add(x, "abcxyz", 0, 0, 0), 6);
  }

  private static void addEntryOffsets() {
    ReadingConverter x = fresh();
    due("a seventh letter", add(x, "abcdefg", 0, 0, 0), -16);
    due("the buffer is kept", x.clearText(), 7);
    due("a seventh that is no letter", add(x, "abcdefG", 0, 0, 0), -16);
    due("a capital before the seventh", add(x, "abcDefgh", 0, 0, 0), -13);
    due("the sign before a", add(x, "`", 0, 0, 0), -10);
    due("the sign behind z", add(x, "az{", 0, 0, 0), -12);
    due("twenty letters", add(x, repeated("a", 20), 0, 0, 0), -16);
    due("INVALID_ARGUMENT comes before the offset", x.addEntry(100, 0, 0), ARGUMENT);
    due("no edit", x.undo(), STATE);
    due("no entry", x.entryCount(), 0);
  }

  private static void addEntryLimit() {
    ReadingConverter x = fresh();
    fillDictionary(x, "a");
    due("the 21st", add(x, "b", 0, 0, 0), LIMIT);
    due("the buffer is kept", x.clearText(), 1);
    due("LIMIT_REACHED comes before the offset", x.addEntry(0, 0, 0), LIMIT);
    due("LIMIT_REACHED comes before the offset", add(x, "b?", 0, 0, 0), LIMIT);
    due("INVALID_STATE comes before LIMIT_REACHED", add(x, "a", 19, 4, 0), STATE);
    due("INVALID_ARGUMENT comes before INVALID_STATE", x.addEntry(19, 4, 100), ARGUMENT);
    due("entryCount", x.entryCount(), 20);
    due("the errors were no edits", x.undo(), 5);
    due("entryCount", x.entryCount(), 19);
    due("room again", add(x, "b", 0, 0, 0), 19);
  }

  private static void removeEntry() {
    ReadingConverter x = fresh();
    due("none", x.removeEntry(0), ARGUMENT);
    add(x, "aa", 10, 0, 50);
    add(x, "bbb", 11, 1, 60);
    add(x, "c", 12, 2, 70);
    due("below", x.removeEntry(-1), ARGUMENT);
    due("beyond", x.removeEntry(3), ARGUMENT);
    due("far", x.removeEntry(MOST), ARGUMENT);
    due("the errors were no edits", x.undo(), 2);
    add(x, "c", 12, 2, 70);
    input(x, "bbbc");
    x.choose(0);
    due("the first", x.removeEntry(0), 2);
    due("wordOf", x.wordOf(0), 11);
    due("wordOf", x.wordOf(1), 12);
    due("costOf", x.costOf(0), 57);
    due("useCount", x.useCount(1), 1);
    x.setConnection(1, 2, 9);
    duePath(x, 0, 57 + 67 + 9, "0:0 3:1");
    due("no longer there", x.wordOf(2), ARGUMENT);
    due("the last", x.removeEntry(1), 1);
    due("the only one", x.removeEntry(0), 0);
    due("nothing left", x.removeEntry(0), ARGUMENT);
    due("it may come again", add(x, "bbb", 11, 1, 5), 0);
    due("with no uses", x.useCount(0), 0);
  }

  private static void entryCount() {
    ReadingConverter x = fresh();
    fillDictionary(x, "xyz");
    due("all", x.entryCount(), 20);
    x.removeEntry(7);
    due("one less", x.entryCount(), 19);
    x.undo();
    due("undone", x.entryCount(), 20);
  }

  private static void dueOfEntries(ReadingConverter x, int entry, int word, int cost, int uses) {
    promise = 7;
    due("wordOf(" + entry + ")", x.wordOf(entry), word);
    promise = 8;
    due("costOf(" + entry + ")", x.costOf(entry), cost);
    promise = 9;
    due("useCount(" + entry + ")", x.useCount(entry), uses);
  }

  private static void questionsOfEntries() {
    ReadingConverter x = fresh();
    dueOfEntries(x, 0, ARGUMENT, ARGUMENT, ARGUMENT);
    add(x, "a", 5, 0, 8);
    add(x, "b", 0, 0, 99);
    add(x, "c", 99, 0, 0);
    dueOfEntries(x, -1, ARGUMENT, ARGUMENT, ARGUMENT);
    dueOfEntries(x, 3, ARGUMENT, ARGUMENT, ARGUMENT);
    dueOfEntries(x, LEAST, ARGUMENT, ARGUMENT, ARGUMENT);
    dueOfEntries(x, MOST, ARGUMENT, ARGUMENT, ARGUMENT);
    input(x, "abc");
    int[] costsOfFirst = {8, 5, 2, 0, 0, 0, 0, 0, 0, 0};
    for (int uses = 0; uses <= 9; uses++) {
      dueOfEntries(x, 0, 5, costsOfFirst[uses], uses);
      dueOfEntries(x, 1, 0, 99 - 3 * uses, uses);
      dueOfEntries(x, 2, 99, 0, uses);
      due("choose", x.choose(0), uses < 9 ? 3 : 0);
    }
    dueOfEntries(x, 1, 0, 72, 9);
  }

  private static void entriesWithPrefix() {
    ReadingConverter x = fresh();
    due("an empty dictionary", x.entriesWithPrefix(), 0);
    add(x, "a", 0, 0, 0);
    add(x, "ab", 0, 0, 0);
    add(x, "abc", 0, 0, 0);
    add(x, "abc", 1, 0, 0);
    add(x, "b", 0, 0, 0);
    add(x, "abcdef", 0, 0, 0);
    due("the empty text", x.entriesWithPrefix(), 6);
    String[] texts = {"a", "ab", "abc", "abcd", "b", "ba", "c", "abcdef", "abcdefg", "A", "ab?"};
    int[] wants = {5, 4, 3, 1, 1, 0, 0, 1, 0, 0, 0};
    for (int i = 0; i < texts.length; i++) {
      type(x, texts[i]);
      due("with " + texts[i], x.entriesWithPrefix(), wants[i]);
      due("the text is kept", x.clearText(), texts[i].length());
    }
    type(x, repeated("a", 20));
    due("with twenty letters", x.entriesWithPrefix(), 0);
  }

  /** A shorter reading in the place of a longer one does not inherit its letters. */
  private static void prefixAfterRemoval() {
    ReadingConverter x = fresh();
    add(x, "abc", 0, 0, 0);
    x.removeEntry(0);
    add(x, "a", 0, 0, 0);
    type(x, "ab");
    due("the letters of a removed entry", x.entriesWithPrefix(), 0);
    type(x, "a");
    due("its own letter", x.entriesWithPrefix(), 1);
    due("it is another reading", add(x, "abc", 0, 0, 0), 1);
  }

  private static void setConnection() {
    ReadingConverter x = fresh();
    due("left", x.setConnection(-1, 0, 0), ARGUMENT);
    due("left", x.setConnection(7, 0, 0), ARGUMENT);
    due("right", x.setConnection(0, -1, 0), ARGUMENT);
    due("right", x.setConnection(0, 7, 0), ARGUMENT);
    due("cost", x.setConnection(0, 0, -1), ARGUMENT);
    due("cost", x.setConnection(0, 0, 100), ARGUMENT);
    due("all", x.setConnection(MOST, LEAST, MOST), ARGUMENT);
    due("the errors were no edits", x.undo(), STATE);
    for (int left = 0; left <= 6; left++) {
      for (int right = 0; right <= 6; right++) {
        x.setConnection(left, right, left * 7 + right);
      }
    }
    for (int left = 0; left <= 6; left++) {
      for (int right = 0; right <= 6; right++) {
        due("setConnection(" + left + ", " + right + ")", x.setConnection(left, right, 99), left * 7 + right);
      }
    }
    due("the same value is an edit too", x.setConnection(6, 6, 99), 99);
    x.setConnection(6, 0, 0);
    due("undo", x.undo(), 5);
    due("undo", x.undo(), 4);
    due("the order of the pair counts", x.setConnection(0, 6, 1), 99);
  }

  private static void setUnknownCost() {
    ReadingConverter x = fresh();
    due("below", x.setUnknownCost(-1), ARGUMENT);
    due("beyond", x.setUnknownCost(201), ARGUMENT);
    due("far", x.setUnknownCost(LEAST), ARGUMENT);
    due("the errors were no edits", x.undo(), STATE);
    input(x, "ab");
    duePath(x, 0, 200, "0:-5 1:-5");
    due("the greatest", x.setUnknownCost(200), 100);
    duePath(x, 0, 400, "0:-5 1:-5");
    due("the least", x.setUnknownCost(0), 200);
    duePath(x, 0, 0, "0:-5 1:-5");
    due("the same value", x.setUnknownCost(0), 0);
  }

  private static void setInput() {
    ReadingConverter x = fresh();
    due("a capital", input(x, "abC"), -12);
    due("the buffer is kept", x.clearText(), 3);
    due("a seventeenth letter", input(x, repeated("a", 17)), -26);
    due("a seventeenth that is no letter", input(x, repeated("a", 16) + "?"), -26);
    due("an earlier one that is no letter", input(x, "?" + repeated("a", 19)), -10);
    due("the sign before a", input(x, "a`"), -11);
    due("the sign behind z", input(x, "z{"), -11);
    due("the errors were no edits", x.undo(), STATE);
    due("sixteen letters", input(x, repeated("az", 8)), 16);
    due("the buffer is emptied", x.clearText(), 0);
    due("inputLength", x.inputLength(), 16);
    for (int gap = 1; gap <= 15; gap++) {
      due("setConstraint", x.setConstraint(gap, 2), 0);
    }
    due("an error changes nothing", input(x, "ab9"), -12);
    due("inputLength", x.inputLength(), 16);
    due("the same letters again", input(x, repeated("az", 8)), 16);
    for (int gap = 1; gap <= 15; gap++) {
      due("all constraints are free", x.setConstraint(gap, 0), 0);
    }
    x.clearText();
    due("an empty input", x.setInput(), 0);
    due("inputLength", x.inputLength(), 0);
    due("it is an edit", x.undo(), 5);
    due("inputLength", x.inputLength(), 16);
  }

  private static void inputLength() {
    ReadingConverter x = fresh();
    for (int length = 0; length <= 16; length++) {
      input(x, repeated("q", length));
      due("inputLength", x.inputLength(), length);
    }
    type(x, "abc");
    due("the buffer is not the input", x.inputLength(), 16);
  }

  private static void setConstraint() {
    ReadingConverter x = fresh();
    due("an empty input", x.setConstraint(0, 0), ARGUMENT);
    due("an empty input", x.setConstraint(1, 0), ARGUMENT);
    input(x, "a");
    due("a single letter", x.setConstraint(0, 1), ARGUMENT);
    due("a single letter", x.setConstraint(1, 1), ARGUMENT);
    input(x, "aaaa");
    due("the first gap", x.setConstraint(0, 1), ARGUMENT);
    due("the last gap", x.setConstraint(4, 1), ARGUMENT);
    due("far", x.setConstraint(MOST, 1), ARGUMENT);
    due("far", x.setConstraint(LEAST, 1), ARGUMENT);
    due("constraint", x.setConstraint(1, -1), ARGUMENT);
    due("constraint", x.setConstraint(1, 3), ARGUMENT);
    due("the errors were no edits", x.undo(), 1);
    input(x, "aaaa");
    due("forced", x.setConstraint(1, 1), 0);
    due("forbidden", x.setConstraint(1, 2), 1);
    due("another gap", x.setConstraint(3, 1), 0);
    due("free", x.setConstraint(1, 0), 2);
    due("free again", x.setConstraint(1, 0), 0);
    due("the other gap", x.setConstraint(3, 2), 1);
  }

  private static void constraintsOnPaths() {
    ReadingConverter x = fresh();
    add(x, "aa", 0, 0, 10);
    add(x, "aaaa", 0, 0, 10);
    input(x, "aaaa");
    due("free", x.pathCount(), 6);
    x.setConstraint(2, 1);
    due("forced: none crosses it", x.pathCount(), 4);
    x.setConstraint(2, 2);
    due("forbidden: none ends there", x.pathCount(), 2);
    duePath(x, 0, 10, "0:1");
    duePath(x, 1, 210, "0:-5 1:0 3:-5");
    x.setConstraint(1, 1);
    due("both", x.pathCount(), 1);
    x.setConstraint(3, 2);
    due("no path", x.pathCount(), 0);
  }

  private static void segmentsAt() {
    ReadingConverter x = fresh();
    due("an empty input", x.segmentsAt(0), 0);
    due("beyond", x.segmentsAt(1), ARGUMENT);
    due("below", x.segmentsAt(-1), ARGUMENT);
    due("far", x.segmentsAt(MOST), ARGUMENT);
    add(x, "a", 0, 0, 0);
    add(x, "aa", 0, 0, 0);
    add(x, "aab", 0, 0, 0);
    add(x, "b", 0, 0, 0);
    add(x, "aa", 1, 0, 0);
    add(x, "baabaa", 0, 0, 0);
    input(x, "baabaa");
    int[] wants = {2, 4, 1, 1, 3, 1, 0};
    for (int gap = 0; gap <= 6; gap++) {
      due("segmentsAt(" + gap + ")", x.segmentsAt(gap), wants[gap]);
    }
    due("beyond", x.segmentsAt(7), ARGUMENT);
    x.setConstraint(1, 2);
    x.setConstraint(2, 1);
    for (int gap = 0; gap <= 6; gap++) {
      due("with constraints, segmentsAt(" + gap + ")", x.segmentsAt(gap), wants[gap]);
    }
    due("the constraints leave no path", x.pathCount(), 0);
    x.removeEntry(5);
    due("with one entry less", x.segmentsAt(0), 1);
  }

  private static void pathCount() {
    ReadingConverter x = fresh();
    fillDictionary(x, "a");
    int[] wants = {1, 21, 441, 9261, 194481, 4084101, 85766121, CAP, CAP};
    for (int length = 0; length < wants.length; length++) {
      input(x, repeated("a", length));
      due("with " + length + " letters", x.pathCount(), wants[length]);
    }
    input(x, repeated("a", 16));
    due("far above the cap", x.pathCount(), CAP);
    input(x, repeated("a", 16).replace("aaa", "aab"));
    x.setConstraint(3, 2);
    due("no path", x.pathCount(), 0);
    input(x, repeated("b", 16));
    due("unknown segments alone", x.pathCount(), 1);
  }

  private static void pathCost() {
    ReadingConverter x = fresh();
    due("below", x.pathCost(-1), ARGUMENT);
    due("beyond", x.pathCost(20), ARGUMENT);
    due("far", x.pathCost(LEAST), ARGUMENT);
    due("the path without segments", x.pathCost(0), 0);
    due("no second one", x.pathCost(1), NONE);
    due("no twentieth", x.pathCost(19), NONE);
    x.setConnection(6, 6, 31);
    due("the path without segments", x.pathCost(0), 31);
    add(x, "ab", 0, 3, 40);
    add(x, "c", 0, 1, 20);
    x.setConnection(6, 3, 1);
    x.setConnection(3, 1, 2);
    x.setConnection(1, 6, 4);
    x.setConnection(1, 3, 50);
    x.setConnection(6, 5, 7);
    x.setConnection(5, 5, 8);
    x.setConnection(5, 1, 16);
    input(x, "abc");
    duePath(x, 0, 1 + 40 + 2 + 20 + 4, "0:0 2:1");
    duePath(x, 1, 1 + 40 + 100, "0:0 2:-5");
    duePath(x, 2, 7 + 100 + 8 + 100 + 16 + 20 + 4, "0:-5 1:-5 2:1");
    duePath(x, 3, 7 + 100 + 8 + 100 + 8 + 100, "0:-5 1:-5 2:-5");
    due("no fifth", x.pathCost(4), NONE);
    x.setConstraint(1, 1);
    duePath(x, 0, 7 + 100 + 8 + 100 + 16 + 20 + 4, "0:-5 1:-5 2:1");
    x.setConstraint(2, 2);
    due("no path", x.pathCost(0), NONE);
  }

  private static void dearestPath() {
    ReadingConverter x = fresh();
    x.setUnknownCost(200);
    x.setConnection(6, 5, 99);
    x.setConnection(5, 5, 99);
    x.setConnection(5, 6, 99);
    input(x, repeated("a", 16));
    due("the dearest path", x.pathCost(0), 16 * 200 + 17 * 99);
  }

  private static void orderOfPaths() {
    ReadingConverter x = fresh();
    add(x, "a", 0, 0, 10);
    add(x, "aa", 1, 1, 20);
    add(x, "a", 2, 2, 10);
    add(x, "aaa", 3, 3, 30);
    add(x, "aa", 4, 4, 20);
    x.setUnknownCost(10);
    input(x, "aaa");
    String[] wants = {
      "0:3", "0:1 2:0", "0:1 2:2", "0:1 2:-5", "0:4 2:0", "0:4 2:2", "0:4 2:-5",
      "0:0 1:1", "0:0 1:4", "0:0 1:0 2:0", "0:0 1:0 2:2", "0:0 1:0 2:-5", "0:0 1:2 2:0", "0:0 1:2 2:2",
      "0:0 1:2 2:-5", "0:0 1:-5 2:0", "0:0 1:-5 2:2", "0:0 1:-5 2:-5", "0:2 1:1", "0:2 1:4"
    };
    for (int rank = 0; rank < wants.length; rank++) {
      duePath(x, rank, 30, wants[rank]);
    }
    due("bestCount", x.bestCount(), 1 + 12 + 27);
    x.setConnection(1, 0, 1);
    duePath(x, 1, 30, "0:1 2:2");
    x.setConnection(6, 3, 99);
    duePath(x, 0, 30, "0:1 2:2");
  }

  private static void segmentCount() {
    ReadingConverter x = fresh();
    due("below", x.segmentCount(-1), ARGUMENT);
    due("beyond", x.segmentCount(20), ARGUMENT);
    due("without segments", x.segmentCount(0), 0);
    due("no such path", x.segmentCount(1), NONE);
    add(x, "aa", 0, 0, 0);
    input(x, "aaaaa");
    due("the best", x.segmentCount(0), 3);
    due("the last", x.segmentCount(7), 5);
    due("no such path", x.segmentCount(8), NONE);
    input(x, repeated("b", 16));
    due("sixteen", x.segmentCount(0), 16);
    due("the far side", x.segmentCount(19), NONE);
    due("far", x.segmentCount(MOST), ARGUMENT);
  }

  private static void segmentStartAndEntry() {
    ReadingConverter x = fresh();
    add(x, "abc", 0, 0, 5);
    add(x, "de", 0, 0, 5);
    input(x, "xabcde");
    int[] starts = {0, 1, 4};
    int[] entries = {UNKNOWN, 0, 1};
    for (int i = 0; i < 3; i++) {
      promise = 20;
      due("segmentStart", x.segmentStart(0, i), starts[i]);
      promise = 21;
      due("segmentEntry", x.segmentEntry(0, i), entries[i]);
    }
    int[][] calls = {{0, 3}, {0, MOST}, {4, 0}, {19, 0}, {-1, 0}, {20, 0}, {0, -1}, {19, -1}, {19, LEAST}, {MOST, MOST}};
    int[] wants = {NONE, NONE, NONE, NONE, ARGUMENT, ARGUMENT, ARGUMENT, ARGUMENT, ARGUMENT, ARGUMENT};
    for (int i = 0; i < calls.length; i++) {
      promise = 20;
      due("segmentStart of call " + i, x.segmentStart(calls[i][0], calls[i][1]), wants[i]);
      promise = 21;
      due("segmentEntry of call " + i, x.segmentEntry(calls[i][0], calls[i][1]), wants[i]);
    }
    promise = 20;
    due("the last of six", x.segmentStart(3, 5), 5);
    promise = 21;
    due("the last of six", x.segmentEntry(3, 5), UNKNOWN);
    input(x, "");
    promise = 20;
    due("without segments", x.segmentStart(0, 0), NONE);
    promise = 21;
    due("without segments", x.segmentEntry(0, 0), NONE);
  }

  private static void bestThrough() {
    ReadingConverter x = fresh();
    due("no entry", x.bestThrough(0, 0), ARGUMENT);
    add(x, "ab", 0, 0, 30);
    add(x, "b", 0, 1, 20);
    add(x, "a", 0, 2, 7);
    due("an empty input", x.bestThrough(0, 0), NONE);
    due("no such gap", x.bestThrough(0, 1), ARGUMENT);
    input(x, "abab");
    x.setConnection(0, 0, 40);
    due("below", x.bestThrough(-1, 0), ARGUMENT);
    due("beyond", x.bestThrough(3, 0), ARGUMENT);
    due("start below", x.bestThrough(0, -1), ARGUMENT);
    due("start beyond", x.bestThrough(0, 5), ARGUMENT);
    due("both far", x.bestThrough(MOST, LEAST), ARGUMENT);
    due("the last gap", x.bestThrough(0, 4), NONE);
    due("another letter", x.bestThrough(1, 0), NONE);
    due("at 0", x.bestThrough(0, 0), 30 + 27);
    due("at 2", x.bestThrough(0, 2), 27 + 30);
    due("a at 0", x.bestThrough(2, 0), 27 + 27);
    due("b at 3", x.bestThrough(1, 3), 27 + 27);
    x.setConnection(2, 1, 99);
    due("the dear connection is met", x.bestThrough(2, 0), 7 + 100 + 30);
    due("the dear connection is met", x.bestThrough(1, 3), 30 + 100 + 20);
    x.setConstraint(1, 1);
    due("it would cross a forced gap", x.bestThrough(0, 0), NONE);
    due("the other one", x.bestThrough(0, 2), 7 + 100 + 30);
    x.setConstraint(1, 2);
    due("it would end at a forbidden gap", x.bestThrough(2, 0), NONE);
    due("it would start at a forbidden gap", x.bestThrough(1, 1), NONE);
    x.setConstraint(2, 2);
    due("no path", x.bestThrough(0, 2), NONE);
  }

  private static void boundaryInBest() {
    ReadingConverter x = fresh();
    due("an empty input", x.boundaryInBest(0), ARGUMENT);
    due("an empty input", x.boundaryInBest(1), ARGUMENT);
    input(x, "a");
    due("one letter", x.boundaryInBest(1), ARGUMENT);
    due("one letter", x.boundaryInBest(0), ARGUMENT);
    add(x, "ab", 0, 0, 30);
    add(x, "bc", 0, 1, 30);
    input(x, "abcd");
    due("the first gap", x.boundaryInBest(0), ARGUMENT);
    due("the last gap", x.boundaryInBest(4), ARGUMENT);
    due("far", x.boundaryInBest(MOST), ARGUMENT);
    due("far", x.boundaryInBest(LEAST), ARGUMENT);
    due("some", x.boundaryInBest(1), 1);
    due("some", x.boundaryInBest(2), 1);
    due("all", x.boundaryInBest(3), 2);
    x.setConnection(6, 0, 1);
    due("all", x.boundaryInBest(1), 2);
    due("none", x.boundaryInBest(2), 0);
    x.setConstraint(1, 2);
    due("forbidden", x.boundaryInBest(1), 0);
    due("all", x.boundaryInBest(2), 2);
    x.setConstraint(2, 1);
    due("forced", x.boundaryInBest(2), 2);
    x.setConstraint(3, 2);
    due("no path", x.boundaryInBest(1), NONE);
    due("no path", x.boundaryInBest(3), NONE);
  }

  /** Nearly all of the best paths beyond the cap have the boundary, but not all. */
  private static void boundaryBeyondTheCap() {
    ReadingConverter x = fresh();
    for (int i = 0; i < 19; i++) {
      add(x, "a", i, 0, 10);
    }
    add(x, "aa", 0, 0, 20);
    x.setUnknownCost(10);
    input(x, repeated("a", 16));
    for (int gap = 1; gap <= 15; gap++) {
      due("boundaryInBest(" + gap + ")", x.boundaryInBest(gap), 1);
    }
    due("bestCount", x.bestCount(), CAP);
  }

  private static void bestCount() {
    ReadingConverter x = fresh();
    due("without segments", x.bestCount(), 1);
    fillDictionary(x, "a");
    int[] wants = {1, 20, 400, 8000, 160000, 3200000, 64000000, CAP, CAP};
    for (int length = 0; length < wants.length; length++) {
      input(x, repeated("a", length));
      due("with " + length + " letters", x.bestCount(), wants[length]);
    }
    input(x, repeated("a", 16));
    due("far above the cap", x.bestCount(), CAP);
    x.setUnknownCost(9);
    due("only one", x.bestCount(), 1);
    x.setConnection(5, 5, 1);
    input(x, "aa");
    due("two unknown ones (9 + 1 + 9) cost as much as one and an entry (9 + 10)", x.bestCount(), 1 + 20 + 20);
    x.setConstraint(1, 2);
    due("no path", x.bestCount(), 0);
  }

  private static void choose() {
    ReadingConverter x = fresh();
    due("below", x.choose(-1), ARGUMENT);
    due("beyond", x.choose(20), ARGUMENT);
    due("far", x.choose(LEAST), ARGUMENT);
    due("no such path", x.choose(1), STATE);
    due("the errors were no edits", x.undo(), STATE);
    due("without segments", x.choose(0), 0);
    due("it is an edit", x.undo(), 0);
    add(x, "a", 0, 0, 50);
    add(x, "b", 0, 0, 60);
    add(x, "c", 0, 0, 70);
    input(x, "aabax");
    due("each entry once", x.choose(0), 2);
    due("three times in it", x.useCount(0), 1);
    due("once in it", x.useCount(1), 1);
    due("not in it", x.useCount(2), 0);
    duePath(x, 0, 3 * 47 + 57 + 100, "0:0 1:0 2:1 3:0 4:-5");
    duePath(x, 1, 3 * 47 + 100 + 100, "0:0 1:0 2:-5 3:0 4:-5");
    due("another rank", x.choose(1), 1);
    due("useCount", x.useCount(0), 2);
    due("useCount", x.useCount(1), 1);
    type(x, "q");
    for (int i = 3; i <= 9; i++) {
      due("choose", x.choose(0), 2);
    }
    due("one has come to its limit", x.useCount(0), 9);
    due("the other one", x.useCount(1), 8);
    due("only the other one", x.choose(0), 1);
    due("none", x.choose(0), 0);
    due("the limit", x.useCount(0), 9);
    due("the limit", x.useCount(1), 9);
    due("the buffer is not touched", x.clearText(), 1);
  }

  private static void forget() {
    ReadingConverter x = fresh();
    due("no entries", x.forget(), STATE);
    add(x, "a", 0, 0, 50);
    add(x, "b", 0, 0, 60);
    due("all 0", x.forget(), STATE);
    due("the errors were no edits", x.undo(), 1);
    add(x, "b", 0, 0, 60);
    input(x, "ab");
    x.choose(0);
    x.choose(0);
    x.setConstraint(1, 1);
    due("the sum", x.forget(), 4);
    due("useCount", x.useCount(0), 0);
    due("useCount", x.useCount(1), 0);
    due("costOf", x.costOf(1), 60);
    due("pathCost", x.pathCost(0), 110);
    due("again", x.forget(), STATE);
    x.undo();
    due("undone", x.useCount(1), 2);
    x.removeEntry(1);
    due("without the removed one", x.forget(), 2);
    due("again", x.forget(), STATE);
  }

  private static void undo() {
    ReadingConverter x = fresh();
    due("nothing", x.undo(), STATE);
    add(x, "ab", 7, 1, 50);
    type(x, "hold");
    due("addEntry", x.undo(), 0);
    due("entryCount", x.entryCount(), 0);
    due("the buffer is not touched", x.clearText(), 4);
    due("nothing", x.undo(), STATE);
    add(x, "ab", 7, 1, 50);
    add(x, "c", 8, 2, 40);
    input(x, "abc");
    x.setConstraint(1, 2);
    x.setConstraint(2, 1);
    x.choose(0);
    x.removeEntry(0);
    x.setConnection(1, 2, 5);
    x.setUnknownCost(3);
    x.clearText();
    x.setInput();
    x.forget();
    due("six are kept", x.undo(), 5);
    due("forget", x.useCount(0), 1);
    due("setInput", x.undo(), 4);
    due("the input is back", x.inputLength(), 3);
    due("setUnknownCost", x.undo(), 3);
    due("setConnection", x.undo(), 2);
    due("removeEntry", x.undo(), 1);
    due("the entry is back", x.wordOf(0), 7);
    due("with its cost", x.costOf(0), 47);
    duePath(x, 0, 47 + 37, "0:0 2:1");
    due("choose", x.undo(), 0);
    due("costOf", x.costOf(0), 50);
    due("the seventh", x.undo(), STATE);
    due("the constraints stand", x.setConstraint(1, 0), 2);
    due("the constraints stand", x.setConstraint(2, 0), 1);
    due("undo", x.undo(), 1);
    due("the constraint is back", x.setConstraint(2, 0), 1);
  }

  /** The paths are asked for before and after, so that none of them may be an old answer. */
  private static void undoAndPaths() {
    ReadingConverter x = fresh();
    add(x, "ab", 0, 1, 10);
    add(x, "cd", 1, 2, 20);
    x.setConnection(6, 1, 3);
    input(x, "ab");
    duePath(x, 0, 13, "0:0");
    input(x, "cd");
    duePath(x, 0, 20, "0:1");
    due("segmentsAt", x.segmentsAt(0), 1);
    due("the letters of the input", x.undo(), 4);
    duePath(x, 0, 13, "0:0");
    x.removeEntry(0);
    duePath(x, 0, 200, "0:-5 1:-5");
    due("the class of the entry", x.undo(), 4);
    duePath(x, 0, 13, "0:0");
    x.setConstraint(1, 1);
    duePath(x, 0, 200, "0:-5 1:-5");
    due("the constraint", x.undo(), 4);
    duePath(x, 0, 13, "0:0");
    x.setUnknownCost(1);
    duePath(x, 0, 2, "0:-5 1:-5");
    due("bestCount", x.bestCount(), 1);
    due("the unknown cost", x.undo(), 4);
    duePath(x, 0, 13, "0:0");
    x.setConnection(1, 6, 50);
    duePath(x, 0, 63, "0:0");
    due("the connection", x.undo(), 4);
    duePath(x, 0, 13, "0:0");
    x.choose(0);
    duePath(x, 0, 10, "0:0");
    x.forget();
    duePath(x, 0, 13, "0:0");
    due("forget", x.undo(), 5);
    duePath(x, 0, 10, "0:0");
    due("choose", x.undo(), 4);
    duePath(x, 0, 13, "0:0");
  }

  private static void undoAndEditAgain() {
    ReadingConverter x = fresh();
    for (int cost = 1; cost <= 10; cost++) {
      due("setUnknownCost", x.setUnknownCost(cost), cost == 1 ? 100 : cost - 1);
    }
    due("undo", x.undo(), 5);
    due("undo", x.undo(), 4);
    due("an edit on top", x.setUnknownCost(50), 8);
    due("undo", x.undo(), 4);
    due("undo", x.undo(), 3);
    due("undo", x.undo(), 2);
    due("undo", x.undo(), 1);
    due("undo", x.undo(), 0);
    due("nothing", x.undo(), STATE);
    due("the oldest that is kept", x.setUnknownCost(0), 4);
  }

  public static void main(String[] args) {
    promise = 1; newObject();
    promise = 2; appendCharacter();
    promise = 3; clearText();
    promise = 4; addEntry(); addEntryOffsets(); addEntryLimit();
    promise = 5; removeEntry();
    promise = 6; entryCount();
    questionsOfEntries();
    promise = 10; entriesWithPrefix(); prefixAfterRemoval();
    promise = 11; setConnection();
    promise = 12; setUnknownCost();
    promise = 13; setInput();
    promise = 14; inputLength();
    promise = 15; setConstraint(); constraintsOnPaths();
    promise = 16; segmentsAt();
    promise = 17; pathCount();
    promise = 18; pathCost(); dearestPath(); orderOfPaths();
    promise = 19; segmentCount();
    segmentStartAndEntry();
    promise = 22; bestThrough();
    promise = 23; boundaryInBest(); boundaryBeyondTheCap();
    promise = 24; bestCount();
    promise = 25; choose();
    promise = 26; forget();
    promise = 27; undo(); undoAndPaths(); undoAndEditAgain();
    System.out.println(wrong == 0 ? "the promises hold" : wrong + " answers are not as due");
    if (wrong != 0) {
      System.exit(1);
    }
  }
}
