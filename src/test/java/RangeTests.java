/** For each range that the document names: the last value that is allowed and the first one that is not, at both ends. */
public final class RangeTests {
  private static final int LEAST = Integer.MIN_VALUE;
  private static final int MOST = Integer.MAX_VALUE;

  /** Each of these calls, with the value put in the place of '#', is out of range. */
  private static String refused(String call, int... values) {
    StringBuilder all = new StringBuilder();
    for (int value : values) {
      all.append(call.replace("#", Integer.toString(value))).append(" = -1; ");
    }
    return all.toString();
  }

  private static final String TWENTY_ENTRIES = Script.entries("a", 30, 49, 7);

  private static void characters() {
    Script.sentence("Promise 2: character: its code, 0 to 255",
        refused("appendCharacter #", -1, LEAST, 256, 256 + 'a', MOST),
        "clearText = 0; appendCharacter 0 = 1; appendCharacter 255 = 2; appendCharacter 1 = 3; appendCharacter 254 = 4",
        refused("appendCharacter #", -1, 256),
        "clearText = 4");
  }

  private static void newEntries() {
    Script.sentence("Promise 4: word: 0 to 99",
        "type ab", refused("addEntry # 0 0", -1, LEAST, 100, 256, MOST),
        "addEntry 0 0 0 = 0; wordOf 0 = 0",
        "type ab; addEntry 99 0 0 = 1; wordOf 1 = 99",
        "type ab", refused("addEntry # 0 0", -1, 100), "entryCount = 2; clearText = 2");
    Script.sentence("Promise 4: itsClass: 0 to 4",
        "type ab", refused("addEntry 1 # 0", -1, LEAST, 5, 6, 7, MOST),
        "addEntry 1 0 0 = 0; type ab; addEntry 1 4 0 = 1",
        "type ab", refused("addEntry 1 # 0", -1, 5), "entryCount = 2; clearText = 2",
        "setConnection 6 0 11; setConnection 6 4 12; type ab; setInput = 2; bestThrough 0 0 = 11; bestThrough 1 0 = 12");
    Script.sentence("Promise 4: cost: the base cost, 0 to 99",
        "type ab", refused("addEntry 1 0 #", -1, LEAST, 100, 200, MOST),
        "addEntry 1 0 0 = 0; costOf 0 = 0; type ab; addEntry 1 1 99 = 1; costOf 1 = 99",
        "type ab", refused("addEntry 1 2 #", -1, 100), "entryCount = 2; clearText = 2");
    Script.sentence("Promise 4: each argument is looked at, whatever the other ones are",
        "type ab; addEntry 99 4 100 = -1; addEntry 99 5 99 = -1; addEntry 100 4 99 = -1; addEntry 0 0 -1 = -1",
        "addEntry 0 -1 0 = -1; addEntry -1 0 0 = -1; addEntry 99 4 99 = 0; wordOf 0 = 99; costOf 0 = 99");
  }

  private static void numbersOfEntries() {
    Script.sentence("Promise 5: entry: the number of an existing entry",
        refused("removeEntry #", -1, 0, 1, LEAST, MOST),
        Script.entries("a", 10, 12, 5), refused("removeEntry #", -1, 3, LEAST, MOST),
        "removeEntry 2 = 2", refused("removeEntry #", -1, 2),
        "removeEntry 0 = 1; wordOf 0 = 11", refused("removeEntry #", -1, 1), "removeEntry 0 = 0", refused("removeEntry #", 0));
    Script.sentence("Promise 5: the number of the last of 20 entries",
        TWENTY_ENTRIES, refused("removeEntry #", -1, 20), "removeEntry 19 = 19", refused("removeEntry #", 19),
        "wordOf 18 = 48; entryCount = 19");
    String[] questions = {"Promise 7: wordOf", "Promise 8: costOf", "Promise 9: useCount"};
    int[] firsts = {30, 7, 0};
    int[] lasts = {49, 7, 0};
    for (int i = 0; i < questions.length; i++) {
      String name = questions[i].split(": ")[1];
      Script.sentence(questions[i] + ": the number of an existing entry",
          refused(name + " #", -1, 0, 1, LEAST, MOST),
          Script.entries("a", 30, 30, 7), name + " 0 = " + firsts[i], refused(name + " #", -1, 1),
          "removeEntry 0 = 0", refused(name + " #", 0), "undo = 1; " + name + " 0 = " + firsts[i], refused(name + " #", 1));
      Script.sentence(questions[i] + ": the number of the last of 20 entries",
          TWENTY_ENTRIES, name + " 0 = " + firsts[i] + "; " + name + " 19 = " + lasts[i],
          refused(name + " #", -1, 20, 21, LEAST, MOST));
    }
  }

  private static void connections() {
    Script.sentence("Promise 11: left: 0 to 6",
        "setConnection 0 0 10 = 0; setConnection 6 6 20 = 0", refused("setConnection # 0 30", -1, 7, 8, LEAST, MOST),
        refused("setConnection # 6 30", -1, 7), "setConnection 0 0 1 = 10; setConnection 6 6 1 = 20; setConnection 6 0 1 = 0");
    Script.sentence("Promise 11: right: 0 to 6",
        "setConnection 1 0 10 = 0; setConnection 0 6 20 = 0", refused("setConnection 0 # 30", -1, 7, 8, LEAST, MOST),
        refused("setConnection 1 # 30", -1, 7), refused("setConnection 6 # 30", -1, 7),
        "setConnection 1 0 1 = 10; setConnection 0 6 1 = 20");
    Script.sentence("Promise 11: cost: 0 to 99",
        "setConnection 3 4 99 = 0; setConnection 3 4 0 = 99", refused("setConnection 3 4 #", -1, 100, 200, LEAST, MOST),
        "setConnection 3 4 99 = 0; setConnection 3 4 98 = 99", refused("setConnection 3 4 #", -1, 100),
        "setConnection 3 4 1 = 98");
    StringBuilder ordered = new StringBuilder();
    for (int pair = 0; pair < 49; pair++) {
      ordered.append("setConnection ").append(pair / 7).append(' ').append(pair % 7).append(' ').append(pair + 50).append(" = 0; ");
    }
    for (int pair = 48; pair >= 0; pair--) {
      ordered.append("setConnection ").append(pair / 7).append(' ').append(pair % 7).append(" 0 = ").append(pair + 50).append("; ");
    }
    Script.sentence("Description: a connection cost for each ordered pair of two of the numbers 0 to 6; initially all of them are 0",
        ordered.toString());
  }

  private static void unknownCosts() {
    Script.sentence("Promise 12: cost: 0 to 200",
        refused("setUnknownCost #", -1, 201, LEAST, MOST), "setUnknownCost 200 = 100", refused("setUnknownCost #", -1, 201),
        "setUnknownCost 0 = 200", refused("setUnknownCost #", -1, 201), "setUnknownCost 199 = 0; setUnknownCost 1 = 199");
    Script.sentence("Description: the unknown cost (0 to 200, initially 100)",
        "type q; setInput = 1; pathCost 0 = 100; setUnknownCost 200 = 100; pathCost 0 = 200; setUnknownCost 0 = 200; pathCost 0 = 0");
  }

  private static void constraints() {
    for (int length : new int[] {2, 3, 16}) {
      int last = length - 1;
      Script.sentence("Promise 15: gap: 1 to the length of the input minus 1; the length is " + length,
          Script.input(Script.letters(length, 'a')), refused("setConstraint # 1", 0, length, -1, length + 1, 17, LEAST, MOST),
          refused("setConstraint # 0", 0, length), refused("setConstraint # 2", 0, length),
          "setConstraint 1 1 = 0; setConstraint 1 0 = 1; setConstraint " + last + " 2 = 0; setConstraint " + last + " 0 = 2",
          refused("setConstraint # 1", 0, length));
    }
    Script.sentence("Promise 15: an input of one letter has no gap between the first and the last one",
        Script.input("a"), refused("setConstraint # 1", -1, 0, 1, 2), "pathCount = 1");
    Script.sentence("Promise 15: constraint: 0 free, 1 forced, 2 forbidden",
        Script.input("aa"), refused("setConstraint 1 #", -1, 3, LEAST, MOST),
        "setConstraint 1 2 = 0", refused("setConstraint 1 #", -1, 3), "setConstraint 1 0 = 2",
        refused("setConstraint 1 #", -1, 3), "setConstraint 1 1 = 0", refused("setConstraint 1 #", -1, 3), "setConstraint 1 1 = 1");
    Script.sentence("Promise 15: the gaps of an earlier, longer input are no gaps",
        Script.input("aaaaa"), "setConstraint 4 1 = 0; setConstraint 2 2 = 0", Script.input("aaa"),
        refused("setConstraint # 0", 3, 4), "setConstraint 2 0 = 0", Script.input("aaaaa"), "setConstraint 4 0 = 0; setConstraint 2 0 = 0");
  }

  private static void gaps() {
    Script.sentence("Promise 16: gap: 0 to the length of the input",
        Script.entries("a", 0, 1, 5), Script.input("aaa"), refused("segmentsAt #", -1, 4, LEAST, MOST),
        "segmentsAt 0 = 2; segmentsAt 2 = 2; segmentsAt 3 = 0");
    Script.sentence("Promise 16: the gaps of an input of 16 letters",
        Script.entries("a", 0, 1, 5), Script.input(Script.letters(16, 'a')), refused("segmentsAt #", -1, 17, 18),
        "segmentsAt 0 = 2; segmentsAt 15 = 2; segmentsAt 16 = 0");
    Script.sentence("Promise 23: gap: 1 to the length of the input minus 1",
        Script.input("aaa"), refused("boundaryInBest #", -1, 0, 3, 4, LEAST, MOST), "boundaryInBest 1 = 2; boundaryInBest 2 = 2",
        Script.input("a"), refused("boundaryInBest #", -1, 0, 1, 2),
        Script.input("aa"), refused("boundaryInBest #", 0, 2), "boundaryInBest 1 = 2");
    Script.sentence("Promise 23: the gaps of an input of 16 letters",
        Script.input(Script.letters(16, 'a')), refused("boundaryInBest #", 0, 16, 17), "boundaryInBest 1 = 2; boundaryInBest 15 = 2");
  }

  private static void ranks() {
    String manyPaths = Script.entries("a", 0, 3, 10) + Script.input("aa");
    String[] names = {"Promise 18: pathCost", "Promise 19: segmentCount"};
    int[] firsts = {20, 2};
    int[] lasts = {110, 2};
    for (int i = 0; i < names.length; i++) {
      String name = names[i].split(": ")[1];
      Script.sentence(names[i] + ": rank: 0 to 19, though there are 25 paths",
          manyPaths, "pathCount = 25", refused(name + " #", -1, 20, 24, LEAST, MOST),
          name + " 0 = " + firsts[i] + "; " + name + " 19 = " + lasts[i]);
    }
    for (String name : new String[] {"Promise 20: segmentStart", "Promise 21: segmentEntry"}) {
      String call = name.split(": ")[1];
      boolean start = call.equals("segmentStart");
      Script.sentence(name + ": rank: 0 to 19, though there are 25 paths",
          manyPaths, refused(call + " # 0", -1, 20, 24, LEAST, MOST), refused(call + " # 1", -1, 20), refused(call + " # 2", -1, 20),
          call + " 0 0 = 0; " + call + " 19 0 = " + (start ? 0 : 3) + "; " + call + " 19 1 = " + (start ? 1 : -5));
      Script.sentence(name + ": INVALID_ARGUMENT if the index is negative; NONE if there is no such segment",
          manyPaths, refused(call + " 0 #", -1, LEAST), refused(call + " 19 #", -1, LEAST),
          call + " 0 1 = " + (start ? 1 : 0) + "; " + call + " 0 2 = -9; " + call + " 19 2 = -9; " + call + " 0 16 = -9; "
              + call + " 0 " + MOST + " = -9");
      Script.sentence(name + ": the last of 16 segments",
          Script.input(Script.letters(16, 'q')), call + " 0 15 = " + (start ? 15 : -5) + "; " + call + " 0 16 = -9; " + call + " 0 17 = -9",
          call + " 1 0 = -9; " + call + " 1 15 = -9; " + call + " 19 0 = -9");
    }
    Script.sentence("Promise 25: rank: 0 to 19, though there are 25 paths",
        manyPaths, refused("choose #", -1, 20, 24, LEAST, MOST), "useCount 0 = 0; choose 19 = 1; useCount 3 = 1; choose 0 = 1; useCount 3 = 2");
  }

  private static void ranksOfFewPaths() {
    Script.sentence("Promises 18 to 21 and 25: with 20 paths the last one has the rank 19",
        Script.entries("a", 0, 3, 10), Script.entries("b", 4, 6, 10), Script.input("ab"), "pathCount = 20",
        Script.path(19, 200, "0:-5 1:-5"), "pathCost 20 = -1; choose 19 = 0; choose 20 = -1");
    Script.sentence("Promises 18 to 21 and 25: with 19 paths there is none with the rank 19",
        Script.entries("a", 0, 17, 10), Script.input("a"), "pathCount = 19",
        Script.path(18, 100, "0:-5"),
        "pathCost 19 = -9; segmentCount 19 = -9; segmentStart 19 0 = -9; segmentEntry 19 0 = -9; choose 19 = -2; choose 18 = 0");
    Script.sentence("Promises 18 to 21 and 25: with 1 path there is none with the rank 1",
        Script.input("q"), Script.path(0, 100, "0:-5"),
        "pathCost 1 = -9; segmentCount 1 = -9; segmentStart 1 0 = -9; segmentEntry 1 0 = -9; choose 1 = -2");
    Script.sentence("Promises 18 to 21 and 25: with no path there is none with the rank 0",
        Script.input("qq"), "setConstraint 1 2; pathCount = 0; pathCost 0 = -9; segmentCount 0 = -9; segmentStart 0 0 = -9",
        "segmentEntry 0 0 = -9; choose 0 = -2; choose 19 = -2; pathCost 19 = -9");
  }

  private static void bestThrough() {
    Script.sentence("Promise 22: entry: the number of an existing entry",
        refused("bestThrough # 0", -1, 0, 1), Script.entries("a", 0, 1, 10), Script.input("aaa"),
        refused("bestThrough # 0", -1, 2, LEAST, MOST), refused("bestThrough # 3", -1, 2),
        "bestThrough 0 0 = 30; bestThrough 1 0 = 30");
    Script.sentence("Promise 22: the number of the last of 20 entries",
        TWENTY_ENTRIES, Script.input("aaa"), refused("bestThrough # 0", -1, 20), "bestThrough 0 0 = 21; bestThrough 19 2 = 21");
    Script.sentence("Promise 22: start: 0 to the length of the input",
        Script.entries("a", 0, 1, 10), Script.input("aaa"), refused("bestThrough 0 #", -1, 4, LEAST, MOST),
        "bestThrough 0 2 = 30; bestThrough 0 3 = -9");
    Script.sentence("Promise 22: the gaps of an input of 16 letters",
        Script.entries("a", 0, 1, 10), Script.input(Script.letters(16, 'a')), refused("bestThrough 0 #", -1, 17),
        "bestThrough 0 0 = 160; bestThrough 0 15 = 160; bestThrough 0 16 = -9");
  }

  public static void main(String[] args) {
    characters();
    newEntries();
    numbersOfEntries();
    connections();
    unknownCosts();
    constraints();
    gaps();
    ranks();
    ranksOfFewPaths();
    bestThrough();
    Script.finish();
  }
}
