/** A new object, the empty input, the empty reading, the empty text buffer and the empty dictionary. */
public final class EmptyTests {
  private static void newObject() {
    Script.sentence("Promise 1: an empty dictionary", "entryCount = 0; wordOf 0 = -1; costOf 0 = -1; useCount 0 = -1; entriesWithPrefix = 0");
    Script.sentence("Promise 1: all connection costs 0", "pathCost 0 = 0; setConnection 6 6 1 = 0; setConnection 0 0 1 = 0; setConnection 5 5 1 = 0");
    Script.sentence("Promise 1: the unknown cost 100", "setUnknownCost 100 = 100; setUnknownCost 0 = 100");
    Script.sentence("Promise 1: an empty input", "inputLength = 0; segmentsAt 0 = 0; segmentsAt 1 = -1; pathCount = 1");
    Script.sentence("Promise 1: an empty text buffer", "clearText = 0; appendCharacter 97 = 1");
    Script.sentence("Promise 1: an empty text buffer is an empty input", "setInput = 0; inputLength = 0");
    Script.sentence("Promise 1: nothing to undo", "undo = -2; setUnknownCost 5 = 100; undo = 0; undo = -2");
  }

  private static void emptyInput() {
    Script.sentence("Description: the empty input has exactly one path, which has no segments",
        "pathCount = 1; bestCount = 1; segmentCount 0 = 0; pathCost 0 = 0; pathCost 1 = -9; segmentCount 1 = -9",
        "segmentStart 0 0 = -9; segmentEntry 0 0 = -9; segmentStart 1 0 = -9; segmentEntry 19 0 = -9");
    Script.sentence("Description: the cost of the path without segments is the connection cost from 6 to 6",
        "setConnection 6 6 99 = 0; pathCost 0 = 99; setConnection 6 5 7; setConnection 5 6 7; setConnection 0 0 7; setConnection 5 5 7",
        "pathCost 0 = 99; setUnknownCost 3; pathCost 0 = 99; bestCount = 1; undo = 5; pathCost 0 = 99; setConnection 6 6 0 = 99; pathCost 0 = 0");
    Script.sentence("Description: the connection cost from 6 to 6 counts in no path with segments",
        "setConnection 6 6 99", Script.input("a"), "pathCost 0 = 100; undo = 1; pathCost 0 = 99");
    Script.sentence("Promise 13: an empty input behind another one",
        Script.input("abc"), "setConstraint 1 2 = 0; pathCount = 0; setInput = 0; inputLength = 0; pathCount = 1; bestCount = 1; pathCost 0 = 0",
        "segmentsAt 0 = 0; segmentsAt 1 = -1; undo = 2; inputLength = 3; pathCount = 0; setConstraint 1 0 = 2");
    Script.sentence("Promises 15 and 23: the empty input has no gap between the first and the last one",
        "setConstraint 0 0 = -1; setConstraint 1 0 = -1; setConstraint -1 0 = -1; boundaryInBest 0 = -1; boundaryInBest 1 = -1; boundaryInBest -1 = -1");
    Script.sentence("Promise 16: the empty input has one gap, and no segment starts there",
        Script.entries("a", 0, 2, 0), "segmentsAt 0 = 0; segmentsAt -1 = -1; segmentsAt 1 = -1");
    Script.sentence("Promise 22: the empty input has one gap, and no segment starts there",
        "bestThrough 0 0 = -1", Script.entries("a", 0, 0, 0), "bestThrough 0 0 = -9; bestThrough 0 1 = -1; bestThrough 0 -1 = -1; bestThrough 1 0 = -1");
    Script.sentence("Promise 25: the path without segments can be chosen, and that is an edit",
        Script.entries("a", 0, 0, 9), "choose 0 = 0; useCount 0 = 0; choose 1 = -2; choose 19 = -2; choose 20 = -1; undo = 1; entryCount = 1; undo = 0");
  }

  private static void emptyReading() {
    Script.sentence("Description: the error offset of an empty reading is 0",
        "addEntry 0 0 0 = -10; addEntry 99 4 99 = -10; entryCount = 0; undo = -2; type a; clearText = 1; addEntry 0 0 0 = -10");
    Script.sentence("Promise 4: an empty reading behind an entry that was added",
        "type a; addEntry 0 0 0 = 0; addEntry 0 0 0 = -10; addEntry 1 0 0 = -10; entryCount = 1; undo = 0; addEntry 0 0 0 = -10");
    Script.sentence("Promise 4: the buffer is emptied, also by setInput",
        "type ab; addEntry 0 0 0 = 0; clearText = 0; type ab; setInput = 2; clearText = 0; addEntry 1 0 0 = -10");
  }

  private static void emptyBuffer() {
    Script.sentence("Promise 10: all entries if it is empty",
        "entriesWithPrefix = 0; type a; addEntry 0 0 0; entriesWithPrefix = 1; type bcdefg; addEntry 0 0 0; entriesWithPrefix = 2",
        "type b; entriesWithPrefix = 1; clearText = 1; entriesWithPrefix = 2; removeEntry 0 = 1; entriesWithPrefix = 1");
    Script.sentence("Promise 3: empties the text buffer", "type abc; clearText = 3; entriesWithPrefix = 0; appendCharacter 100 = 1; setInput = 1");
  }

  private static void emptyDictionary() {
    Script.sentence("Promise 17: an empty dictionary leaves the unknown segments",
        Script.input("abc"), "pathCount = 1; bestCount = 1", Script.path(0, 300, "0:-5 1:-5 2:-5"), "segmentsAt 0 = 0; segmentsAt 3 = 0",
        "bestThrough 0 0 = -1; choose 0 = 0; forget = -2; undo = 1");
    Script.sentence("Promise 5: a dictionary that has become empty again",
        "type a; addEntry 7 0 5 = 0", Script.input("a"), "choose 0 = 1; removeEntry 0 = 0; entryCount = 0; removeEntry 0 = -1; wordOf 0 = -1",
        "forget = -2; segmentsAt 0 = 0; bestThrough 0 0 = -1", Script.path(0, 100, "0:-5"), "entriesWithPrefix = 0; type a; entriesWithPrefix = 0",
        "addEntry 7 0 5 = 0; useCount 0 = 0; costOf 0 = 5");
    Script.sentence("Promise 26: INVALID_STATE if all of them were 0, also when there are none",
        "forget = -2", Script.entries("a", 0, 1, 5), "forget = -2", Script.input("a"), "choose 2 = 0; forget = -2; choose 0 = 1; forget = 1; forget = -2");
    Script.sentence("Promise 26: the use count of an entry that was removed does not count",
        Script.entries("a", 0, 1, 5), Script.input("a"), "choose 1 = 1; useCount 1 = 1; removeEntry 1 = 1; forget = -2; undo = 4; forget = 1");
  }

  public static void main(String[] args) {
    newObject();
    emptyInput();
    emptyReading();
    emptyBuffer();
    emptyDictionary();
    Script.finish();
  }
}
