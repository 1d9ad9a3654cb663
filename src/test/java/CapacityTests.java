/** Each capacity and each limit of the document: just before it is exhausted, when it is, and behind it. */
public final class CapacityTests {
  private static final int CAP = 1000000000;

  private static void textBuffer() {
    Script.sentence("Promise 2: LIMIT_REACHED if the buffer holds 20 characters",
        "type " + Script.letters(18, 'a'), "appendCharacter 97 = 19; appendCharacter 97 = 20; appendCharacter 97 = -3",
        "appendCharacter 0 = -3; appendCharacter 255 = -3; clearText = 20; appendCharacter 97 = 1; clearText = 1");
    Script.sentence("Description: a text buffer of at most 20 characters, whatever characters they are",
        Script.times(20, "appendCharacter 0"), "appendCharacter 0 = -3; setInput = -10; addEntry 0 0 0 = -10; clearText = 20",
        Script.times(19, "appendCharacter 255"), "appendCharacter 255 = 20; appendCharacter 255 = -3; clearText = 20");
    Script.sentence("Promise 3: clearText returns the length that it had",
        "clearText = 0; type a; clearText = 1; clearText = 0; type " + Script.letters(19, 'b'), "clearText = 19; clearText = 0",
        "type " + Script.letters(20, 'b'), "clearText = 20; clearText = 0");
    Script.sentence("Promise 2: a character that was refused does not stand in the buffer",
        "type " + Script.letters(16, 'a'), "appendCharacter 256 = -1; setInput = 16",
        "type " + Script.letters(20, 'a'), "appendCharacter 98 = -3; clearText = 20");
  }

  private static void dictionary() {
    Script.sentence("Promise 4: LIMIT_REACHED if there are 20 entries",
        Script.entries("a", 0, 17, 1), "type a; addEntry 18 0 1 = 18; type a; addEntry 19 0 1 = 19",
        "type a; addEntry 20 0 1 = -3; entryCount = 20; clearText = 1; type bcdefg; addEntry 99 4 99 = -3; clearText = 6",
        "wordOf 19 = 19; wordOf 20 = -1; entriesWithPrefix = 20");
    Script.sentence("Promise 4: there is room again when an entry has been removed, and none when that is undone",
        Script.entries("a", 0, 19, 1), "removeEntry 0 = 19; type b; addEntry 50 0 1 = 19; wordOf 19 = 50; wordOf 0 = 1",
        "type b; addEntry 51 0 1 = -3; undo = 5; entryCount = 19; addEntry 51 0 1 = 19; undo = 5; undo = 4; entryCount = 20",
        "wordOf 0 = 0; type b; addEntry 51 0 1 = -3");
    Script.sentence("Promise 4: there is room again when addEntry has been undone",
        Script.entries("a", 0, 19, 1), "type b; addEntry 50 0 1 = -3; undo = 5; addEntry 50 0 1 = 19; entryCount = 20; wordOf 19 = 50");
    Script.sentence("Description: numbered from 0 in the order in which they were added; greater numbers move down by one",
        Script.entries("a", 60, 79, 1), "removeEntry 10 = 19; wordOf 0 = 60; wordOf 9 = 69; wordOf 10 = 71; wordOf 18 = 79; wordOf 19 = -1",
        "removeEntry 18 = 18; wordOf 17 = 78; wordOf 18 = -1; removeEntry 0 = 17; wordOf 0 = 61; wordOf 16 = 78");
    Script.sentence("Promise 27: undo gives back all of the entry 19",
        Script.entries("a", 0, 18, 5), "type bcd; addEntry 9 3 60 = 19", Script.input("bcd"), "setConnection 6 3 7; choose 0 = 1; removeEntry 0 = 19",
        "type b; addEntry 50 1 8 = 19; wordOf 19 = 50; costOf 19 = 8; useCount 19 = 0; undo = 5; undo = 4; wordOf 19 = 9; costOf 19 = 57",
        "useCount 19 = 1; segmentsAt 0 = 1", Script.path(0, 64, "0:19"));
    Script.sentence("Promise 5: an entry moves down with its reading, word, class, cost and use count",
        "type a; addEntry 1 1 10; type ghijkl; addEntry 2 2 40; type mn; addEntry 3 3 50", Script.input("ghijklmn"), "choose 0 = 2",
        "removeEntry 0 = 2; wordOf 0 = 2; costOf 0 = 37; useCount 0 = 1; wordOf 1 = 3; costOf 1 = 47; useCount 1 = 1",
        "setConnection 6 2 5; setConnection 2 3 6", Script.path(0, 95, "0:0 6:1"), "segmentsAt 0 = 1; segmentsAt 6 = 1",
        "type ghijkl; entriesWithPrefix = 1; addEntry 2 2 0 = -2; clearText; type mn; addEntry 3 3 0 = -2; addEntry 3 2 0 = 2");
    Script.sentence("Promise 16: twenty entries at one gap",
        Script.entries("a", 0, 19, 1), Script.input("aa"), "segmentsAt 0 = 20; segmentsAt 1 = 20; segmentsAt 2 = 0; pathCount = 441");
    Script.sentence("Promise 10: all of 20 entries",
        Script.entries("a", 0, 18, 1), "entriesWithPrefix = 19; type ab; addEntry 0 0 0 = 19; entriesWithPrefix = 20; type a",
        "entriesWithPrefix = 20; type b; entriesWithPrefix = 1");
  }

  private static void readings() {
    Script.sentence("Description: an entry has a reading of 1 to 6 letters",
        "addEntry 0 0 0 = -10; type a; addEntry 0 0 0 = 0; type abcde; addEntry 0 0 0 = 1; type abcdef; addEntry 0 0 0 = 2",
        "type abcdefg; addEntry 0 0 0 = -16; clearText = 7; type " + Script.letters(20, 'a'), "addEntry 0 0 0 = -16; clearText = 20",
        "entryCount = 3");
    Script.sentence("Description: a reading of 6 letters stands in the input with all of them",
        "type abcdef; addEntry 0 0 7 = 0", Script.input("abcdef"), Script.path(0, 7, "0:0"),
        Script.input("abcdeg"), "segmentsAt 0 = 0; pathCount = 1", Script.input("abcde"), "segmentsAt 0 = 0; pathCount = 1",
        Script.input("xabcdefabcdefabc"), "segmentsAt 1 = 1; segmentsAt 7 = 1; segmentsAt 13 = 0; segmentsAt 0 = 0");
    Script.sentence("Description: readings of all lengths from 1 to 6 at one gap",
        "type a; addEntry 0 0 1; type ab; addEntry 0 0 2; type abc; addEntry 0 0 3; type abcd; addEntry 0 0 4; type abcde; addEntry 0 0 5",
        "type abcdef; addEntry 0 0 6; setUnknownCost 1", Script.input("abcdef"), "segmentsAt 0 = 6; bestCount = 7; pathCount = 7",
        Script.path(0, 6, "0:5"), Script.path(1, 6, "0:4 5:-5"), Script.path(5, 6, "0:0 1:-5 2:-5 3:-5 4:-5 5:-5"),
        Script.path(6, 6, "0:-5 1:-5 2:-5 3:-5 4:-5 5:-5"), "bestThrough 5 0 = 6; bestThrough 0 0 = 6");
    Script.sentence("Description: a reading of 1 letter may be each of a to z",
        "type a; addEntry 0 0 1 = 0; type z; addEntry 0 0 2 = 1; type m; addEntry 0 0 3 = 2", Script.input("zma"),
        Script.path(0, 6, "0:1 1:2 2:0"));
    Script.sentence("Promise 10: a text that is as long as the reading, and one that is longer by one",
        "type abcdef; addEntry 0 0 0 = 0; type abc; addEntry 0 0 0 = 1; type abcde; entriesWithPrefix = 1; appendCharacter 102 = 6",
        "entriesWithPrefix = 1; appendCharacter 103 = 7; entriesWithPrefix = 0; clearText = 7; type abc; entriesWithPrefix = 2",
        "appendCharacter 100 = 4; entriesWithPrefix = 1; clearText; type " + Script.letters(20, 'a'), "entriesWithPrefix = 0");
  }

  private static void longTexts() {
    Script.sentence("Promise 10: a text of 7 letters begins no reading, not even two that stand one behind the other",
        "type abcdef; addEntry 0 0 0 = 0; type ghi; addEntry 0 0 0 = 1; type abcdefg; entriesWithPrefix = 0; type hi; entriesWithPrefix = 0",
        "addEntry 0 0 0 = -16; clearText = 9; type abcdef; entriesWithPrefix = 1; addEntry 0 0 0 = -2");
    Script.sentence("Promise 10: a text of 7 letters, and one of 20, when the entry 19 has a reading of 6",
        Script.entries("b", 0, 18, 5), "type aaaaaa; addEntry 0 0 0 = 19; type aaaaaa; entriesWithPrefix = 1; type a; entriesWithPrefix = 0",
        "type aaaaaaaaaaaaa; entriesWithPrefix = 0; addEntry 0 0 0 = -3; clearText = 20; entriesWithPrefix = 20");
  }

  private static void inputs() {
    Script.sentence("Description: the input is a sequence of at most 16 letters",
        "type " + Script.letters(15, 'z'), "setInput = 15; type " + Script.letters(16, 'z'), "setInput = 16; inputLength = 16",
        "type " + Script.letters(17, 'z'), "setInput = -26; inputLength = 16; clearText = 17; type " + Script.letters(20, 'z'),
        "setInput = -26; inputLength = 16; clearText = 20");
    Script.sentence("Promise 13: makes all constraints free, at the first gap and at the last one of 16 letters",
        Script.input(Script.letters(16, 'a')), "setConstraint 1 2 = 0; setConstraint 15 1 = 0; setConstraint 8 2 = 0; pathCount = 0",
        Script.input(Script.letters(16, 'a')), "pathCount = 1; setConstraint 1 0 = 0; setConstraint 15 0 = 0; setConstraint 8 0 = 0");
    Script.sentence("Promise 13: a refused input leaves the constraints",
        Script.input("aaa"), "setConstraint 1 2; setConstraint 2 1; type " + Script.letters(17, 'a'),
        "setInput = -26; setConstraint 1 0 = 2; setConstraint 2 0 = 1");
    Script.sentence("Promise 27: undo gives back all of the 16 letters and 15 constraints",
        "type b; addEntry 0 0 5; type c; addEntry 0 0 5", Script.input("baaaaaaaaaaaaaac"), "setConstraint 1 1; setConstraint 15 2; setConstraint 15 1",
        Script.input("caaaaaaaaaaaaaab"), "segmentEntry 0 0 = 1; segmentEntry 0 15 = 0; undo = 5; segmentEntry 0 0 = 0; segmentEntry 0 15 = 1",
        "undo = 4; pathCount = 0; setConstraint 15 0 = 2; setConstraint 1 0 = 1; segmentEntry 0 15 = 1");
    Script.sentence("Description: the last letter of 16 can begin a reading of 1 letter, but none of 2",
        "type aa; addEntry 0 0 3 = 0; type a; addEntry 0 0 2 = 1", Script.input(Script.letters(16, 'a')),
        "segmentsAt 14 = 2; segmentsAt 15 = 1; segmentsAt 16 = 0; bestThrough 0 14 = 24; bestThrough 0 15 = -9; bestThrough 1 15 = 25");
    Script.sentence("Description: letters of an earlier, longer input do not stand behind the last gap",
        "type abc; addEntry 0 0 0 = 0", Script.input("abc"), "segmentsAt 0 = 1", Script.input("ab"),
        "segmentsAt 0 = 0; pathCount = 1; segmentsAt 2 = 0; bestThrough 0 0 = -9");
  }

  private static void useCounts() {
    Script.sentence("Description: a use count from 0 to 9, which is 0 at first; at most 9",
        Script.entries("a", 0, 0, 60), Script.input("a"), "useCount 0 = 0", Script.times(8, "choose 0 = 1"),
        "useCount 0 = 8; choose 0 = 1; useCount 0 = 9; choose 0 = 0; useCount 0 = 9; choose 0 = 0; useCount 0 = 9; costOf 0 = 33");
    Script.sentence("Promise 25: the number of entries whose use count increased, when some stay at 9",
        Script.entries("a", 0, 0, 60), Script.entries("b", 1, 1, 60), Script.input("a"), Script.times(9, "choose 0 = 1"),
        Script.input("ab"), "choose 0 = 1; useCount 0 = 9; useCount 1 = 1", Script.times(8, "choose 0 = 1"),
        "useCount 1 = 9; choose 0 = 0; useCount 0 = 9; useCount 1 = 9");
    Script.sentence("Description: by 1 only, even if the entry occurs several times",
        Script.entries("a", 0, 0, 30), Script.input(Script.letters(16, 'a')), "choose 0 = 1; useCount 0 = 1; pathCost 0 = 432",
        Script.times(7, "choose 0 = 1"), "useCount 0 = 8; choose 0 = 1; useCount 0 = 9; choose 0 = 0; useCount 0 = 9");
    Script.sentence("Promise 25: sixteen different entries in one path",
        entryForEachLetter("abcdefghijklmnop"),
        Script.input("abcdefghijklmnop"), "choose 0 = 16; useCount 0 = 1; useCount 15 = 1; forget = 16; undo = 5; undo = 4; useCount 15 = 0");
    Script.sentence("Description: an entry that does not occur in the chosen path keeps its use count",
        Script.entries("a", 0, 1, 30), Script.entries("b", 2, 2, 30), Script.input("a"), "choose 1 = 1; useCount 0 = 0; useCount 1 = 1",
        "useCount 2 = 0; choose 2 = 0; useCount 0 = 0; useCount 1 = 1");
    Script.sentence("Promise 26: the sum of the use counts of 20 entries that are all 9",
        entryForEachLetter("abcdefghijklmnopqrst"), "forget = -2", Script.input("abcdefghijklmnop"), Script.times(9, "choose 0 = 16"),
        Script.input("qrst"), Script.times(9, "choose 0 = 4"), "choose 0 = 0; useCount 0 = 9; useCount 19 = 9; forget = 180",
        "useCount 0 = 0; useCount 19 = 0; forget = -2; undo = 5; forget = 180");
    Script.sentence("Promise 26: a single use of a single entry is enough",
        Script.entries("a", 0, 0, 5), Script.input("a"), "forget = -2; choose 0 = 1; forget = 1; forget = -2; useCount 0 = 0");
  }

  private static String entryForEachLetter(String letters) {
    StringBuilder all = new StringBuilder();
    for (char letter : letters.toCharArray()) {
      all.append("type ").append(letter).append("; addEntry 0 0 50; ");
    }
    return all.toString();
  }

  private static void costs() {
    int[] bases = {0, 1, 2, 3, 4, 5, 26, 27, 28, 99};
    for (int base : bases) {
      StringBuilder steps = new StringBuilder();
      for (int uses = 0; uses <= 9; uses++) {
        int cost = Math.max(0, base - 3 * uses);
        steps.append("useCount 0 = ").append(uses).append("; costOf 0 = ").append(cost).append("; pathCost 0 = ").append(cost + 3);
        steps.append("; choose 0 = ").append(uses < 9 ? 1 : 0).append("; ");
      }
      Script.sentence("Description: its base cost minus 3 times its use count, but at least 0; the base cost is " + base,
          "type a; addEntry 0 2 " + base, Script.input("a"), "setConnection 6 2 3; setUnknownCost 200", steps.toString());
    }
    Script.sentence("Description: the dearest path of unknown segments",
        "setUnknownCost 200; setConnection 6 5 99; setConnection 5 5 99; setConnection 5 6 99", Script.input(Script.letters(16, 'a')),
        "pathCost 0 = 4883; pathCount = 1; bestCount = 1; boundaryInBest 8 = 2");
    Script.sentence("Description: the dearest path of entries",
        "type a; addEntry 0 4 99; setUnknownCost 200; setConnection 6 4 99; setConnection 4 4 99; setConnection 4 6 99",
        "setConnection 6 5 99; setConnection 5 5 99; setConnection 5 6 99; setConnection 4 5 99; setConnection 5 4 99",
        Script.input(Script.letters(16, 'a')), "pathCost 0 = 3267; pathCost 1 = 3368; bestThrough 0 0 = 3267; bestThrough 0 15 = 3267");
    Script.sentence("Description: the cheapest path costs 0",
        "type a; addEntry 0 0 0; setUnknownCost 0", Script.input(Script.letters(16, 'a')),
        "pathCost 0 = 0; pathCost 19 = 0; bestCount = 65536; pathCount = 65536; bestThrough 0 7 = 0");
  }

  // ---- the counts that are at most 1000000000

  /** So many choices for each letter a, of which one is the unknown segment. */
  private static String choices(int count) {
    return count == 1 ? "" : Script.entries("a", 0, count - 2, 0);
  }

  private static String manyReadings(String readings) {
    StringBuilder all = new StringBuilder("setUnknownCost 0; ");
    int word = 0;
    for (String reading : readings.split(" ")) {
      all.append("type ").append(reading).append("; addEntry ").append(word).append(" 0 0; ");
      word++;
    }
    return all.toString();
  }

  private static String dueCounts(int count) {
    return "pathCount = " + count + "; bestCount = " + count + "; ";
  }

  private static void counts() {
    Script.sentence("Promises 17 and 24: exactly 1000000000 paths, then ten times as many",
        "setUnknownCost 0", choices(10), Script.input(Script.letters(8, 'a')), dueCounts(CAP / 10), Script.input(Script.letters(9, 'a')),
        dueCounts(CAP), Script.input(Script.letters(10, 'a')), dueCounts(CAP), Script.input(Script.letters(16, 'a')), dueCounts(CAP));
    Script.sentence("Promises 17 and 24: 999999840 paths",
        manyReadings("a a a c b a a aa ba a c c cc b a a"), Script.input("bbaccccaabacc"), dueCounts(999999840));
    Script.sentence("Promises 17 and 24: 1000001376 paths are told as 1000000000",
        manyReadings("b aab b ab ac a b b c b b a b a b acb a ca"), Script.input("cbcacacbbbcacca"), dueCounts(CAP));
    Script.sentence("Promises 17 and 24: 2^31 paths, and 2^31 less a few",
        "setUnknownCost 0", choices(8), Script.entries("b", 50, 50, 0), Script.input("aaaaaaaaaab"), dueCounts(CAP),
        Script.input("aaaaaaaaaa"), dueCounts(CAP), Script.input("aaaaaaaaabb"), dueCounts(536870912));
    Script.sentence("Promises 17 and 24: 2^32 paths",
        "setUnknownCost 0", choices(4), Script.input(Script.letters(16, 'a')), dueCounts(CAP),
        Script.input(Script.letters(14, 'a')), dueCounts(268435456), Script.input(Script.letters(15, 'a')), dueCounts(CAP));
    Script.sentence("Promises 17 and 24: 2^64 paths",
        "setUnknownCost 0", choices(16), Script.input(Script.letters(16, 'a')), dueCounts(CAP));
    Script.sentence("Promises 17 and 24: 21^16 paths",
        "setUnknownCost 0", choices(21), Script.input(Script.letters(16, 'a')), dueCounts(CAP),
        Script.input(Script.letters(6, 'a')), dueCounts(85766121), Script.input(Script.letters(7, 'a')), dueCounts(CAP));
    Script.sentence("Promise 17: more than 1000000000 ways from a gap that no path meets do not count",
        manyReadings("b b b b b b b b b ab"), Script.input("abbbbbbbbbb"), "pathCount = 1000000000; setConstraint 1 2",
        dueCounts(CAP), "setConstraint 10 2", "pathCount = 0", Script.input("abbbbbbbbb"), "setConstraint 1 2",
        dueCounts(100000000));
    Script.sentence("Promise 24: few best paths among more than 1000000000",
        choices(21), "setUnknownCost 1", Script.input(Script.letters(16, 'a')), "bestCount = 1000000000; setConnection 0 0 1; pathCount = 1000000000",
        "bestCount = 1000000000; setConnection 0 0 99; setConnection 0 5 99; setConnection 5 0 99; bestCount = 1; pathCost 0 = 16");
    Script.sentence("Promise 24: 1000000000 best paths among more",
        "setUnknownCost 5", Script.entries("a", 0, 9, 4), Script.input(Script.letters(9, 'a')), "bestCount = 1000000000; pathCount = 1000000000",
        "pathCost 19 = 36", Script.input(Script.letters(8, 'a')), "bestCount = 100000000; pathCount = 214358881");
  }

  // ---- the edits that can be undone

  private static void edits() {
    Script.sentence("Description: the last 6 edits can be undone",
        "undo = -2; setUnknownCost 1 = 100; setUnknownCost 2 = 1; setUnknownCost 3 = 2; setUnknownCost 4 = 3; setUnknownCost 5 = 4",
        "setUnknownCost 6 = 5; undo = 5; undo = 4; undo = 3; undo = 2; undo = 1; undo = 0; undo = -2; undo = -2; setUnknownCost 9 = 100");
    Script.sentence("Description: the seventh edit before the latest can't be undone",
        "setUnknownCost 1 = 100; setUnknownCost 2 = 1; setUnknownCost 3 = 2; setUnknownCost 4 = 3; setUnknownCost 5 = 4",
        "setUnknownCost 6 = 5; setUnknownCost 7 = 6; undo = 5; undo = 4; undo = 3; undo = 2; undo = 1; undo = 0; undo = -2",
        "setUnknownCost 9 = 1; undo = 0; undo = -2");
    Script.sentence("Description: five edits can all be undone",
        "setUnknownCost 1; setUnknownCost 2; setUnknownCost 3; setUnknownCost 4; setUnknownCost 5",
        "undo = 4; undo = 3; undo = 2; undo = 1; undo = 0; undo = -2; setUnknownCost 9 = 100");
    Script.sentence("Promise 27: an edit behind an undo is the latest edit that has not been undone",
        "setUnknownCost 1; setUnknownCost 2; setUnknownCost 3; undo = 2; setUnknownCost 8 = 2; undo = 2; undo = 1; setUnknownCost 9 = 1",
        "undo = 1; undo = 0; undo = -2; setUnknownCost 7 = 100");
    Script.sentence("Promise 27: edits and undos around the limit of six, many times over",
        Script.times(7, "setUnknownCost 1; setUnknownCost 2; setUnknownCost 3; setUnknownCost 4; undo; undo; setUnknownCost 5"),
        "undo = 4; undo = 3; undo = 2; undo = 1; undo = 0; undo = -2; setUnknownCost 0 = 1");
    Script.sentence("Promise 27: undo of six edits of different sorts",
        "type ab; addEntry 5 1 40 = 0; type c; addEntry 6 2 30 = 1", Script.input("abc"),
        "setConstraint 2 1 = 0; choose 0 = 2; setConnection 1 2 9 = 0; setUnknownCost 3 = 100; removeEntry 0 = 1; forget = 1",
        "undo = 5; useCount 0 = 1; undo = 4; useCount 0 = 1; wordOf 0 = 5; costOf 0 = 37; undo = 3; undo = 2; pathCost 0 = 64",
        "undo = 1; useCount 0 = 0; costOf 1 = 30; undo = 0; undo = -2; setConstraint 2 0 = 0; inputLength = 3");
  }

  private static void everyCallUpToTheLast() {
    StringBuilder steps = new StringBuilder("setUnknownCost 1 = 100; ");
    for (int i = 2; i <= 505; i++) {
      steps.append("setUnknownCost ").append(i % 201).append(" = ").append((i - 1) % 201).append("; ");
    }
    Script.sentence("What it is: an object is used for at most 512 calls",
        steps.toString(), "undo = 5; undo = 4; undo = 3; undo = 2; undo = 1; undo = 0; undo = -2");
    Script.sentence("What it is: paths after each of 512 calls",
        "type aa; addEntry 0 0 99", Script.input(Script.letters(16, 'a')), Script.times(98, "setConstraint 1 1; pathCount = 987; setConstraint 1 0; pathCount = 1597"),
        Script.times(98, "setUnknownCost 10"), "pathCost 0 = 160");
  }

  public static void main(String[] args) {
    textBuffer();
    dictionary();
    readings();
    longTexts();
    inputs();
    useCounts();
    costs();
    counts();
    edits();
    everyCallUpToTheLast();
    Script.finish();
  }
}
