/** The error offsets, which error is told when several apply, and what later calls answer behind a refused one. */
public final class ErrorTests {
  private static final String FULL = Script.entries("a", 0, 19, 5);
  private static final String NO_PATH = Script.input("qq") + "setConstraint 1 2; ";

  // ---- error offsets

  /** Letters, but for the sign at this offset. */
  private static String textWith(int length, int offset, char sign) {
    StringBuilder text = new StringBuilder(Script.letters(length, 'a'));
    text.setCharAt(offset, sign);
    return text.toString();
  }

  private static void offsetsOfReadings() {
    StringBuilder steps = new StringBuilder();
    for (int offset = 0; offset < 7; offset++) {
      steps.append("clearText; type ").append(textWith(offset + 1, offset, '?')).append("; addEntry 0 0 0 = ").append(-10 - offset).append("; ");
      steps.append("clearText; type ").append(textWith(8, offset, '?')).append("; addEntry 0 0 0 = ").append(-10 - offset).append("; ");
    }
    Script.sentence("Description: the error offset of a reading: the first character that is not a letter", steps.toString(), "entryCount = 0");
    Script.sentence("Description: the error offset of a reading: the seventh character",
        "type abcdefg; addEntry 0 0 0 = -16; appendCharacter 104 = 8; addEntry 0 0 0 = -16; type ijklmnopqrst; addEntry 0 0 0 = -16; clearText = 20");
    Script.sentence("Description: the seventh character comes first if the one that is not a letter lies behind it",
        "type " + textWith(8, 7, '?'), "addEntry 0 0 0 = -16; clearText = 8; type " + textWith(20, 19, '?'), "addEntry 0 0 0 = -16; clearText = 20",
        "type " + textWith(7, 6, '?'), "addEntry 0 0 0 = -16");
    Script.sentence("Description: the one that is not a letter comes first if the seventh lies behind it",
        "type " + textWith(7, 5, '?'), "addEntry 0 0 0 = -15; clearText = 7; type " + textWith(20, 0, '?'), "addEntry 0 0 0 = -10");
    Script.sentence("Description: the first of several that are not letters",
        "type a?b?; addEntry 0 0 0 = -11; clearText; type ????????; addEntry 0 0 0 = -10; clearText; type aa??; addEntry 0 0 0 = -12");
  }

  private static void offsetsOfInputs() {
    StringBuilder steps = new StringBuilder();
    for (int offset = 0; offset < 16; offset++) {
      steps.append("clearText; type ").append(textWith(offset + 1, offset, '?')).append("; setInput = ").append(-10 - offset).append("; ");
    }
    Script.sentence("Description: the error offset of an input: the first character that is not a letter", steps.toString(), "inputLength = 0");
    Script.sentence("Description: the error offset of an input: the seventeenth character",
        "type " + Script.letters(17, 'a'), "setInput = -26; appendCharacter 97 = 18; setInput = -26; type aa; setInput = -26; clearText = 20");
    Script.sentence("Description: the seventeenth character comes first if the one that is not a letter lies behind it",
        "type " + textWith(18, 17, '?'), "setInput = -26; clearText = 18; type " + textWith(20, 19, '?'), "setInput = -26; clearText = 20",
        "type " + textWith(17, 16, '?'), "setInput = -26");
    Script.sentence("Description: the one that is not a letter comes first if the seventeenth lies behind it",
        "type " + textWith(17, 15, '?'), "setInput = -25; clearText = 17; type " + textWith(20, 0, '?'), "setInput = -10; clearText = 20; type "
            + textWith(20, 6, '?'), "setInput = -16");
    Script.sentence("Promise 13: the empty input has no error offset", "setInput = 0; type a; setInput = 1; setInput = 0; undo = 2; inputLength = 1");
  }

  /** The signs next to the letters, at both ends, and those that would become letters by a mask or a change of case. */
  private static void letters() {
    int[] others = {0, 1, 'a' - 1, 'z' + 1, 'A', 'M', 'Z', '@', '[', '0', ' ', 127, 128, 'a' + 128, 'z' + 128, 224, 255};
    for (int code : others) {
      Script.sentence("Description: letters (a to z); the code " + code + " is none",
          "type b; appendCharacter " + code + " = 2; setInput = -11; addEntry 0 0 0 = -11; appendCharacter 98 = 3; setInput = -11",
          "addEntry 0 0 0 = -11; clearText = 3; appendCharacter " + code + " = 1; addEntry 0 0 0 = -10; setInput = -10; entriesWithPrefix = 0");
    }
    Script.sentence("Description: letters (a to z); a and z are letters, and so are all between",
        "type az; addEntry 0 0 0 = 0; type za; setInput = 2; type abcdefghijklm; setInput = 13; type nopqrstuvwxyz; setInput = 13",
        "type abcdef; addEntry 0 0 0 = 1; type uvwxyz; addEntry 0 0 0 = 2; type mnopqr; addEntry 0 0 0 = 3");
    Script.sentence("Promise 10: a text that is no reading begins no reading",
        "type ab; addEntry 0 0 0 = 0; type A; entriesWithPrefix = 0; clearText; type aB; entriesWithPrefix = 0; clearText",
        "appendCharacter 0 = 1; entriesWithPrefix = 0; clearText; type ab; appendCharacter 0 = 3; entriesWithPrefix = 0");
  }

  // ---- the order of the errors

  private static void orderInAddEntry() {
    Script.sentence("Promise 4: INVALID_ARGUMENT rather than INVALID_STATE",
        "type a; addEntry 5 1 9 = 0; type a; addEntry 5 1 100 = -1; addEntry 5 1 -1 = -1; addEntry 5 1 9 = -2; addEntry 5 1 99 = -2; clearText = 1");
    Script.sentence("Promise 4: INVALID_ARGUMENT rather than LIMIT_REACHED",
        FULL, "type b; addEntry 100 0 0 = -1; addEntry 0 5 0 = -1; addEntry 0 0 100 = -1; addEntry 0 0 0 = -3");
    Script.sentence("Promise 4: INVALID_ARGUMENT rather than an error offset",
        "addEntry 100 0 0 = -1; addEntry 0 5 0 = -1; addEntry 0 0 100 = -1; addEntry 0 0 0 = -10; type ?; addEntry -1 0 0 = -1; addEntry 0 0 0 = -10",
        "clearText; type abcdefg; addEntry 0 -1 0 = -1; addEntry 0 0 -1 = -1; addEntry 0 0 0 = -16");
    Script.sentence("Promise 4: INVALID_STATE rather than LIMIT_REACHED",
        FULL, "type a; addEntry 19 0 5 = -2; addEntry 0 0 99 = -2; addEntry 19 1 5 = -3; addEntry 20 0 5 = -3; clearText = 1");
    Script.sentence("Promise 4: LIMIT_REACHED rather than an error offset",
        FULL, "addEntry 0 0 0 = -3; type ?; addEntry 0 0 0 = -3; clearText; type abcdefg; addEntry 0 0 0 = -3; undo = 5; addEntry 0 0 0 = -16",
        "clearText; addEntry 0 0 0 = -10");
    Script.sentence("Promise 4: all errors at once",
        FULL, "type a; addEntry 19 0 100 = -1; appendCharacter 63 = 2; addEntry 19 0 100 = -1; addEntry 19 0 5 = -3");
  }

  private static void orderInOtherCalls() {
    Script.sentence("Promise 2: INVALID_ARGUMENT rather than LIMIT_REACHED",
        "type " + Script.letters(20, 'a'), "appendCharacter 256 = -1; appendCharacter -1 = -1; appendCharacter 255 = -3; appendCharacter 0 = -3");
    Script.sentence("Promises 18 and 19: NONE is returned only if no error applies",
        NO_PATH, "pathCost -1 = -1; pathCost 20 = -1; pathCost 0 = -9; pathCost 19 = -9; segmentCount -1 = -1; segmentCount 20 = -1",
        "segmentCount 0 = -9; segmentCount 19 = -9");
    Script.sentence("Promise 20: NONE is returned only if no error applies",
        NO_PATH, "segmentStart 0 -1 = -1; segmentStart 19 -1 = -1; segmentStart 20 0 = -1; segmentStart -1 99 = -1; segmentStart 0 0 = -9",
        Script.input("q"), "segmentStart 20 1 = -1; segmentStart 1 -1 = -1; segmentStart 1 0 = -9; segmentStart 0 1 = -9; segmentStart 0 0 = 0");
    Script.sentence("Promise 21: NONE is returned only if no error applies",
        NO_PATH, "segmentEntry 0 -1 = -1; segmentEntry 19 -1 = -1; segmentEntry 20 0 = -1; segmentEntry -1 99 = -1; segmentEntry 0 0 = -9",
        Script.input("q"), "segmentEntry 20 1 = -1; segmentEntry 1 -1 = -1; segmentEntry 1 0 = -9; segmentEntry 0 1 = -9; segmentEntry 0 0 = -5");
    Script.sentence("Promise 22: NONE is returned only if no error applies",
        Script.entries("q", 0, 0, 5), NO_PATH, "bestThrough 0 0 = -9; bestThrough 1 0 = -1; bestThrough -1 0 = -1; bestThrough 0 3 = -1",
        "bestThrough 0 -1 = -1; bestThrough 1 3 = -1; bestThrough 0 2 = -9; bestThrough 1 2 = -1");
    Script.sentence("Promise 23: NONE is returned only if no error applies",
        NO_PATH, "boundaryInBest 1 = -9; boundaryInBest 0 = -1; boundaryInBest 2 = -1; boundaryInBest 3 = -1; setConstraint 1 0 = 2; boundaryInBest 1 = 2");
    Script.sentence("Promise 25: INVALID_ARGUMENT rather than INVALID_STATE",
        NO_PATH, "choose -1 = -1; choose 20 = -1; choose 0 = -2; choose 19 = -2");
    Script.sentence("Promises 11 and 15: one argument in its range does not help the other ones",
        "setConnection 0 7 100 = -1; setConnection 7 0 0 = -1; setConnection 0 0 100 = -1; setConnection -1 6 99 = -1", Script.input("qq"),
        "setConstraint 0 2 = -1; setConstraint 2 0 = -1; setConstraint 1 3 = -1; setConstraint 0 3 = -1; setConstraint 1 2 = 0");
  }

  // ---- the same reading, word and class

  private static void sameEntries() {
    Script.sentence("Promise 4: INVALID_STATE if there is an entry with the same reading, word and class; all three count",
        "type ab; addEntry 5 1 9 = 0; type ab; addEntry 5 1 9 = -2; addEntry 5 1 8 = -2; addEntry 5 2 9 = 1; type ab; addEntry 6 1 9 = 2",
        "type ac; addEntry 5 1 9 = 3; type a; addEntry 5 1 9 = 4; type abc; addEntry 5 1 9 = 5; type b; addEntry 5 1 9 = 6; entryCount = 7");
    Script.sentence("Promise 4: the same as the first and as the last of 20 entries, and of 19",
        Script.entries("a", 0, 18, 5), "type a; addEntry 0 0 5 = -2; addEntry 18 0 5 = -2; addEntry 19 0 5 = 19; type a; addEntry 0 0 5 = -2",
        "addEntry 19 0 5 = -2");
    Script.sentence("Promise 4: six letters that differ in the last one",
        "type abcdef; addEntry 5 1 9 = 0; type abcdeg; addEntry 5 1 9 = 1; type abcdef; addEntry 5 1 9 = -2; clearText; type bbcdef; addEntry 5 1 9 = 2");
    Script.sentence("Promise 4: seven letters whose first six are the same are not the same text",
        "type abcdef; addEntry 5 1 9 = 0; type abcdefg; addEntry 5 1 9 = -16; clearText; type abcdef?; addEntry 5 1 9 = -16");
    Script.sentence("Promise 4: an entry that has been removed, or whose adding has been undone, can be added again",
        "type ab; addEntry 5 1 9 = 0; type ab; addEntry 5 1 9 = -2; removeEntry 0 = 0; addEntry 5 1 9 = 0; undo = 2; type ab",
        "addEntry 5 1 9 = 0; undo = 2; undo = 1; type ab; addEntry 5 1 9 = -2");
    Script.sentence("Promise 4: an entry with uses is the same entry",
        "type ab; addEntry 5 1 9 = 0; type ab; setInput; choose 0 = 1; type ab; addEntry 5 1 6 = -2; addEntry 5 1 9 = -2; costOf 0 = 6");
  }

  // ---- behind refused calls

  private static void refusedCalls() {
    Script.sentence("Promise 4: the buffer is kept in all these cases",
        Script.entries("a", 0, 18, 5), "type ab?; addEntry 0 0 0 = -12; clearText = 3; type abcdefg; addEntry 0 0 0 = -16; clearText = 7",
        "type a; addEntry 0 9 0 = -1; addEntry 0 0 0 = -2; entriesWithPrefix = 19; addEntry 50 0 0 = 19; clearText = 0",
        "type a; addEntry 51 0 0 = -3; entriesWithPrefix = 20; setInput = 1; segmentsAt 0 = 20");
    Script.sentence("Promise 13: the buffer is kept then",
        Script.input("xy"), "type ab?; setInput = -12; inputLength = 2; clearText = 3; type " + Script.letters(17, 'b'),
        "setInput = -26; inputLength = 2; clearText = 17; clearText = 0");
    Script.sentence("Description: a call that returns an error changes nothing; the path that was the best stays so",
        "type ab; addEntry 1 1 20; type c; addEntry 2 2 30", Script.input("abc"), "setConnection 1 2 4; setConstraint 2 1",
        "removeEntry 2 = -1; removeEntry -1 = -1; setConnection 7 2 9 = -1; setConnection 1 2 100 = -1; setUnknownCost 201 = -1",
        "setConstraint 3 0 = -1; setConstraint 2 3 = -1; choose 2 = 1; choose 20 = -1; choose 4 = -2; forget = 1; forget = -2",
        Script.path(0, 54, "0:0 2:1"), "undo = 5; undo = 4; undo = 3; setConstraint 2 0 = 0; setConnection 1 2 0 = 4");
    Script.sentence("Description: a refused call is no edit, and does not drop an old one",
        "setUnknownCost 1; setUnknownCost 2; setUnknownCost 3; setUnknownCost 4; setUnknownCost 5; setUnknownCost 6",
        "addEntry 0 0 0 = -10; addEntry 0 0 100 = -1; removeEntry 0 = -1; setConnection 7 0 0 = -1; setUnknownCost 201 = -1; type ?",
        "setInput = -10; setConstraint 1 0 = -1; choose 1 = -2; choose 20 = -1; forget = -2",
        "undo = 5; undo = 4; undo = 3; undo = 2; undo = 1; undo = 0; undo = -2; setUnknownCost 0 = 100");
    Script.sentence("Promise 27: INVALID_STATE if there is none to undo, and that changes nothing",
        Script.entries("a", 0, 0, 5), "undo = 0; undo = -2; undo = -2; entryCount = 0; type a; undo = -2; addEntry 0 0 5 = 0; undo = 0; entryCount = 0");
    Script.sentence("Description: a refused call does not bring back an edit that was undone",
        "setUnknownCost 7 = 100; undo = 0; setUnknownCost -1 = -1; undo = -2; setUnknownCost 8 = 100; setUnknownCost 201 = -1; undo = 0; undo = -2");
  }

  // ---- which calls are edits

  private static void edits() {
    Script.sentence("Description: the successful calls that set what was set before are edits too",
        "setUnknownCost 100 = 100; setConnection 0 0 0 = 0; setInput = 0; choose 0 = 0", Script.input("qq"), "setConstraint 1 0 = 0",
        "undo = 5; undo = 4; undo = 3; undo = 2; undo = 1; undo = 0; undo = -2");
    Script.sentence("Description: appendCharacter, clearText and the questions are no edits",
        "type abc; clearText = 3; entryCount = 0; entriesWithPrefix = 0; inputLength = 0; segmentsAt 0 = 0; pathCount = 1; pathCost 0 = 0",
        "segmentCount 0 = 0; segmentStart 0 0 = -9; segmentEntry 0 0 = -9; bestCount = 1; undo = -2");
    Script.sentence("Description: undo() does not affect the text buffer",
        "type ab; addEntry 0 0 5 = 0; undo = 0; clearText = 0; type xyz; undo = -2; clearText = 3; type ab; setInput = 2; type c; undo = 0",
        "appendCharacter 100 = 2; clearText = 2; type ab; setInput = 2; undo = 0; addEntry 0 0 5 = -10");
    Script.sentence("Promise 27: undo of choose gives back a use count that had come to 9",
        Script.entries("a", 0, 0, 60), Script.input("a"), Script.times(9, "choose 0 = 1"), "useCount 0 = 9; choose 0 = 0; undo = 5; useCount 0 = 9",
        "undo = 4; useCount 0 = 8; costOf 0 = 36; choose 0 = 1; useCount 0 = 9");
    Script.sentence("Promise 27: undo of removeEntry gives back the numbers, the uses and the paths",
        Script.entries("a", 0, 2, 30), Script.input("a"), "choose 1 = 1; removeEntry 0 = 2; wordOf 0 = 1; useCount 0 = 1; undo = 5; wordOf 0 = 0",
        "wordOf 1 = 1; wordOf 2 = 2; useCount 0 = 0; useCount 1 = 1; segmentEntry 0 0 = 1; removeEntry 2 = 2; undo = 5; wordOf 2 = 2");
    Script.sentence("Promise 27: undo of setInput gives back the letters and the constraints",
        "type ab; addEntry 0 0 5", Script.input("ab"), "setConstraint 1 2 = 0; pathCount = 1", Script.input("cdefg"), "pathCount = 1; undo = 3",
        "inputLength = 2; segmentsAt 0 = 1", Script.path(0, 5, "0:0"), "setConstraint 1 1 = 2");
  }

  public static void main(String[] args) {
    offsetsOfReadings();
    offsetsOfInputs();
    letters();
    orderInAddEntry();
    orderInOtherCalls();
    sameEntries();
    refusedCalls();
    edits();
    Script.finish();
  }
}
