/** The edges of segments, constraints, paths and their order. */
public final class PathEdgeTests {

  // ---- segments

  private static void segments() {
    Script.sentence("Promise 16: segments of entries, whatever the constraints are; unknown segments do not count",
        "type aa; addEntry 0 0 5; type a; addEntry 0 0 5", Script.input("aaa"), "segmentsAt 0 = 2; segmentsAt 1 = 2; segmentsAt 2 = 1; segmentsAt 3 = 0",
        "setConstraint 1 1; segmentsAt 0 = 2; segmentsAt 1 = 2; setConstraint 1 2; segmentsAt 0 = 2; segmentsAt 1 = 2; setConstraint 2 2",
        "segmentsAt 0 = 2; segmentsAt 1 = 2; segmentsAt 2 = 1; pathCount = 0");
    Script.sentence("Description: for each entry and each start at which its reading stands in the input",
        "type aba; addEntry 0 0 5", Script.input("abababa"), "segmentsAt 0 = 1; segmentsAt 1 = 0; segmentsAt 2 = 1; segmentsAt 4 = 1; segmentsAt 5 = 0",
        "segmentsAt 6 = 0; pathCount = 5");
    Script.sentence("Description: entries with the same reading make a segment each",
        "type ab; addEntry 1 0 5; type ab; addEntry 1 1 5; type ab; addEntry 2 0 5", Script.input("ab"), "segmentsAt 0 = 3; pathCount = 4");
    Script.sentence("Description: for each letter an unknown segment that covers this letter alone, also where entries stand",
        "type abc; addEntry 0 0 99; setUnknownCost 0", Script.input("abc"), Script.path(0, 0, "0:-5 1:-5 2:-5"), Script.path(1, 99, "0:0"), "pathCount = 2");
    Script.sentence("Description: an unknown segment has the class 5",
        Script.input("q"), "setConnection 6 5 7; setConnection 5 6 9; pathCost 0 = 116; setConnection 4 6 50; setConnection 6 4 50; pathCost 0 = 116");
    for (int itsClass = 0; itsClass <= 4; itsClass++) {
      String pair = Integer.toString(itsClass);
      Script.sentence("Description: a segment of an entry has the class and the cost of the entry; the class is " + pair,
          "type a; addEntry 0 " + pair + " 9", Script.input("aa"), "setConnection 6 " + pair + " 1; setConnection " + pair + " " + pair + " 2",
          "setConnection " + pair + " 6 4", Script.path(0, 25, "0:0 1:0"), "setConnection " + pair + " 5 8; setConnection 5 " + pair + " 16",
          "bestThrough 0 0 = 25; setConstraint 1 1", Script.path(1, 118, "0:0 1:-5"), Script.path(2, 129, "0:-5 1:0"));
    }
  }

  // ---- constraints

  private static void constraints() {
    String threes = "type abc; addEntry 0 0 5; ";
    Script.sentence("Description: all forced gaps must be ends of segments of the path",
        threes, Script.input("abcabc"), "pathCount = 4; setConstraint 3 1; pathCount = 4; setConstraint 1 1; pathCount = 2; setConstraint 1 0",
        "setConstraint 2 1; pathCount = 2", Script.path(0, 305, "0:-5 1:-5 2:-5 3:0"), "setConstraint 5 1; pathCount = 1; setConstraint 2 0; pathCount = 2");
    Script.sentence("Description: no forbidden gap may be an end of a segment",
        threes, Script.input("abcabc"), "setConstraint 3 2; pathCount = 0; setConstraint 3 0; setConstraint 1 2; pathCount = 2",
        Script.path(1, 305, "0:0 3:-5 4:-5 5:-5"), "setConstraint 2 2; pathCount = 2; setConstraint 5 2; setConstraint 4 2; pathCount = 1",
        Script.path(0, 10, "0:0 3:0"));
    Script.sentence("Description: a gap is free at first",
        threes, Script.input("abc"), "pathCount = 2; setConstraint 1 0 = 0; setConstraint 2 0 = 0; pathCount = 2");
    Script.sentence("Description: all gaps of 16 letters forced",
        Script.entries("a", 0, 0, 5), "type aa; addEntry 0 0 1", Script.input(Script.letters(16, 'a')), allGaps(16, 1), "pathCount = 65536",
        "bestCount = 1; segmentCount 0 = 16; segmentCount 19 = 16; pathCost 0 = 80; bestThrough 1 0 = -9; bestThrough 1 14 = -9; boundaryInBest 15 = 2");
    Script.sentence("Description: all gaps forbidden leave only a segment of the whole input",
        "type abcdef; addEntry 0 0 5; type abcde; addEntry 0 0 1", Script.input("abcdef"), allGaps(6, 2), "pathCount = 1",
        Script.path(0, 5, "0:0"), "boundaryInBest 1 = 0; boundaryInBest 5 = 0; bestThrough 1 0 = -9; bestThrough 0 0 = 5",
        Script.input("abcdefg"), allGaps(7, 2), "pathCount = 0; bestCount = 0; pathCost 0 = -9; bestThrough 0 0 = -9; boundaryInBest 6 = -9");
    Script.sentence("Description: the first gap and the last one need no constraint, and a single letter has its path",
        Script.input("a"), "pathCount = 1; bestCount = 1", Script.path(0, 100, "0:-5"), Script.input("aa"), "setConstraint 1 1",
        Script.path(0, 200, "0:-5 1:-5"));
    Script.sentence("Description: forced and forbidden gaps side by side",
        "type ab; addEntry 0 0 5; type bc; addEntry 0 0 5; type cd; addEntry 0 0 5", Script.input("abcd"), "setConstraint 1 2; setConstraint 2 1",
        "setConstraint 3 2; pathCount = 1", Script.path(0, 10, "0:0 2:2"), "setConstraint 2 2; pathCount = 0; setConstraint 1 1; pathCount = 0",
        "setConstraint 3 1; pathCount = 1", Script.path(0, 205, "0:-5 1:1 3:-5"));
  }

  private static String allGaps(int length, int constraint) {
    StringBuilder all = new StringBuilder();
    for (int gap = 1; gap < length; gap++) {
      all.append("setConstraint ").append(gap).append(' ').append(constraint).append(" = 0; ");
    }
    return all.toString();
  }

  // ---- the cost of a path

  private static void costs() {
    Script.sentence("Description: the connection cost for the classes of any two consecutive segments (in this order)",
        "type a; addEntry 0 1 10; type b; addEntry 0 2 20", Script.input("ab"), "setConnection 2 1 50; pathCost 0 = 30; setConnection 1 2 7",
        "pathCost 0 = 37", Script.input("ba"), "pathCost 0 = 80");
    Script.sentence("Description: the connection cost from 6 to the class of the first segment, and from that of the last one to 6",
        "type a; addEntry 0 1 10; type b; addEntry 0 2 20", Script.input("ab"), "setConnection 6 2 50; setConnection 1 6 50; pathCost 0 = 30",
        "setConnection 6 1 3; pathCost 0 = 33; setConnection 2 6 4; pathCost 0 = 37");
    Script.sentence("Description: a single segment is the first one and the last one",
        "type abcdef; addEntry 0 3 10; setConnection 6 3 99; setConnection 3 6 99; setConnection 3 3 50", Script.input("abcdef"),
        Script.path(0, 208, "0:0"), "bestThrough 0 0 = 208; bestCount = 1; choose 0 = 1; pathCost 0 = 205");
    Script.sentence("Description: the cheapest beginning need not lead to the cheapest path",
        "type a; addEntry 0 0 1; type a; addEntry 1 1 5; type b; addEntry 0 2 1; setConnection 0 2 90", Script.input("ab"),
        Script.path(0, 6, "0:1 1:2"), Script.path(1, 92, "0:0 1:2"), "bestThrough 0 0 = 92; bestThrough 1 0 = 6; bestThrough 2 1 = 6");
  }

  // ---- the order of the paths

  private static void order() {
    Script.sentence("Description: paths are ordered by cost, smallest first",
        "type ab; addEntry 0 0 21; type a; addEntry 0 0 10; type b; addEntry 0 0 10", Script.input("ab"), Script.path(0, 20, "0:1 1:2"),
        Script.path(1, 21, "0:0"), Script.path(2, 110, "0:1 1:-5"), Script.path(3, 110, "0:-5 1:2"), Script.path(4, 200, "0:-5 1:-5"), "pathCost 5 = -9");
    Script.sentence("Description: with the same cost, the path with the longer segment comes first, though its entry number is greater",
        "type a; addEntry 0 0 10; type b; addEntry 0 0 10; type ab; addEntry 0 0 20; setUnknownCost 10", Script.input("ab"),
        Script.path(0, 20, "0:2"), Script.path(1, 20, "0:0 1:1"), Script.path(2, 20, "0:0 1:-5"), Script.path(3, 20, "0:-5 1:1"),
        Script.path(4, 20, "0:-5 1:-5"), "pathCost 5 = -9; bestCount = 5");
    Script.sentence("Description: with the same length, the smaller entry number comes first, whatever the words and classes are",
        "type a; addEntry 99 4 10; type a; addEntry 0 0 10; type a; addEntry 50 2 10", Script.input("a"), Script.path(0, 10, "0:0"),
        Script.path(1, 10, "0:1"), Script.path(2, 10, "0:2"), Script.path(3, 100, "0:-5"));
    Script.sentence("Description: an unknown segment comes last, also behind the entry 19",
        Script.entries("b", 0, 18, 5), "type a; addEntry 0 0 10 = 19; setUnknownCost 10", Script.input("a"), Script.path(0, 10, "0:19"),
        Script.path(1, 10, "0:-5"), "bestCount = 2; setUnknownCost 9", Script.path(0, 9, "0:-5"), Script.path(1, 10, "0:19"));
    Script.sentence("Description: compared at the first position at which their segments differ, not at a later one",
        "type a; addEntry 0 0 10; type b; addEntry 0 0 10; type c; addEntry 0 0 10; type ab; addEntry 0 0 20; type bc; addEntry 0 0 20",
        "setUnknownCost 200", Script.input("abc"), Script.path(0, 30, "0:3 2:2"), Script.path(1, 30, "0:0 1:4"), Script.path(2, 30, "0:0 1:1 2:2"),
        "bestCount = 3; boundaryInBest 1 = 1; boundaryInBest 2 = 1");
    Script.sentence("Description: the order after a removal goes by the new numbers",
        Script.entries("a", 0, 2, 10), Script.input("a"), "removeEntry 0", Script.path(0, 10, "0:0"), "wordOf 0 = 1", Script.path(1, 10, "0:1"));
    Script.sentence("Description: a path that learning has made cheaper comes first",
        Script.entries("a", 0, 1, 10), Script.input("a"), "choose 1 = 1", Script.path(0, 7, "0:1"), Script.path(1, 10, "0:0"),
        "forget = 1", Script.path(0, 10, "0:0"), "undo = 4", Script.path(0, 7, "0:1"));
    Script.sentence("Description: the ranks 0 to 19 of paths that differ only in their last segments",
        Script.entries("b", 0, 19, 10), Script.input(Script.letters(15, 'q') + "b"), "segmentEntry 0 15 = 0; segmentEntry 1 15 = 1; segmentEntry 19 15 = 19",
        "segmentStart 19 15 = 15; segmentCount 19 = 16; pathCount = 21; pathCost 19 = 1510; pathCost 20 = -1; bestCount = 20");
    Script.sentence("Description: the ranks 0 to 19 of paths that differ only in their first segments",
        Script.entries("b", 0, 19, 10), Script.input("b" + Script.letters(15, 'q')), "segmentEntry 0 0 = 0; segmentEntry 1 0 = 1; segmentEntry 19 0 = 19",
        "segmentStart 19 15 = 15; segmentCount 19 = 16; pathCount = 21; pathCost 19 = 1510; bestCount = 20");
  }

  // ---- the best paths

  private static void bestThrough() {
    Script.sentence("Promise 22: the smallest cost of a path with this segment, though it is not a best path",
        "type ab; addEntry 0 0 90; type a; addEntry 0 1 1; type b; addEntry 0 2 1", Script.input("ab"), "pathCost 0 = 2; bestThrough 0 0 = 90",
        "setConnection 6 0 5; setConnection 0 6 4; bestThrough 0 0 = 99; setConstraint 1 2; bestThrough 1 0 = -9; pathCost 0 = 99");
    Script.sentence("Promise 22: a path that has no rank from 0 to 19",
        Script.entries("a", 0, 18, 1), "type a; addEntry 19 0 99", Script.input("aaa"), "bestThrough 19 0 = 101; bestThrough 19 2 = 101; pathCost 19 = 3");
    Script.sentence("Promise 22: NONE if there is no such segment or path",
        "type ab; addEntry 0 0 5; type b; addEntry 0 0 5; type a; addEntry 0 0 5", Script.input("aba"), "bestThrough 0 0 = 10; bestThrough 0 1 = -9",
        "bestThrough 0 2 = -9; bestThrough 0 3 = -9; bestThrough 1 1 = 15; setConstraint 1 1; bestThrough 0 0 = -9; bestThrough 1 1 = 15",
        "setConstraint 1 2; bestThrough 0 0 = 10; bestThrough 1 1 = -9; bestThrough 2 0 = -9; setConstraint 2 2; bestThrough 0 0 = -9; bestThrough 2 2 = -9");
    Script.sentence("Promise 22: a segment that stands where no path can come to, or from where none leads on",
        "type a; addEntry 0 0 5; type bc; addEntry 0 0 5", Script.input("abca"), "setConstraint 2 2; setConstraint 1 1; bestThrough 1 1 = 15",
        "setConstraint 3 2; bestThrough 1 1 = -9; bestThrough 0 0 = -9; bestThrough 0 3 = -9");
  }

  private static void behindAnotherInput() {
    Script.sentence("Promise 22: NONE for a segment that stood in an earlier input",
        Script.entries("a", 0, 2, 5), Script.entries("b", 3, 3, 5), Script.input("a"), "bestThrough 0 0 = 5; bestThrough 2 0 = 5",
        Script.input("b"), "bestThrough 3 0 = 5; bestThrough 0 0 = -9; bestThrough 1 0 = -9; bestThrough 2 0 = -9; undo = 5; bestThrough 2 0 = 5");
    Script.sentence("Promises 17 to 24: a shorter input behind a longer one",
        Script.entries("a", 0, 1, 5), Script.input(Script.letters(16, 'a')), "pathCount = 43046721; bestCount = 65536; pathCost 0 = 80",
        Script.input("aa"), "pathCount = 9; bestCount = 4; pathCost 0 = 10; pathCost 8 = 200; pathCost 9 = -9; segmentCount 8 = 2; segmentStart 0 2 = -9",
        "boundaryInBest 1 = 2; boundaryInBest 2 = -1");
  }

  private static void boundaries() {
    for (int start = 0; start <= 14; start++) {
      Script.sentence("Promise 23: a segment of 2 letters spans the gap between them; it starts at " + start,
          "type ab; addEntry 0 0 80", Script.input(Script.letters(start, 'q') + "ab" + Script.letters(14 - start, 'q')),
          "boundaryInBest " + (start + 1) + " = 0; setUnknownCost 40; boundaryInBest " + (start + 1) + " = 1; setUnknownCost 39; boundaryInBest "
              + (start + 1) + " = 2");
    }
    Script.sentence("Promise 23: 2 in all best paths, 1 in some of them but not all, 0 in none",
        "type ab; addEntry 0 0 20; type a; addEntry 0 0 10; type b; addEntry 0 0 10; type c; addEntry 0 0 10", Script.input("abc"),
        "boundaryInBest 1 = 1; boundaryInBest 2 = 2; bestCount = 2; choose 0 = 2; boundaryInBest 1 = 0; boundaryInBest 2 = 2; bestCount = 1; undo = 5",
        "choose 1 = 3; boundaryInBest 1 = 2; boundaryInBest 2 = 2; bestCount = 1");
    Script.sentence("Promise 23: a difference of 1 in the cost decides",
        "type ab; addEntry 0 0 20; setUnknownCost 10", Script.input("ab"), "boundaryInBest 1 = 1; setUnknownCost 11; boundaryInBest 1 = 0",
        "setUnknownCost 9; boundaryInBest 1 = 2; setConnection 5 5 2; boundaryInBest 1 = 1; setConnection 5 5 3; boundaryInBest 1 = 0");
    Script.sentence("Promise 23: a forced gap is in all best paths, a forbidden one in none",
        "type ab; addEntry 0 0 20; setUnknownCost 10", Script.input("ab"), "setConstraint 1 1; boundaryInBest 1 = 2; setConstraint 1 2; boundaryInBest 1 = 0",
        "removeEntry 0; boundaryInBest 1 = -9; bestCount = 0; setConstraint 1 1; boundaryInBest 1 = 2");
    Script.sentence("Promise 23: some but not all of more than 1000000000 best paths, at the first and the last gap of 16 letters",
        Script.entries("a", 0, 18, 10), "type aa; addEntry 0 0 20; setUnknownCost 10", Script.input(Script.letters(16, 'a')), "bestCount = 1000000000",
        "boundaryInBest 1 = 1; boundaryInBest 8 = 1; boundaryInBest 15 = 1; removeEntry 19; boundaryInBest 1 = 2; boundaryInBest 15 = 2");
    Script.sentence("Promise 23: a segment of 6 letters spans 5 gaps",
        "type abcdef; addEntry 0 0 5", Script.input("xabcdefx"), "boundaryInBest 1 = 2; boundaryInBest 2 = 0; boundaryInBest 6 = 0; boundaryInBest 7 = 2",
        "setConstraint 4 1; boundaryInBest 2 = 2; boundaryInBest 6 = 2");
    Script.sentence("Promise 24: 0 if there is no path, 1 if there is only one",
        Script.input("qq"), "bestCount = 1; setConstraint 1 2; bestCount = 0; pathCount = 0; setConstraint 1 1; bestCount = 1; pathCount = 1");
  }

  public static void main(String[] args) {
    segments();
    constraints();
    costs();
    order();
    bestThrough();
    behindAnotherInput();
    boundaries();
    Script.finish();
  }
}
