import java.math.BigInteger;
import java.util.ArrayDeque;
import java.util.ArrayList;
import java.util.Arrays;
import java.util.Comparator;
import java.util.Deque;
import java.util.List;
import java.util.Random;

/**
 * Runs of 512 calls, drawn with fixed seeds, against a plain reference that works the other way round:
 * it keeps whole states for undo, counts exactly, and sorts whole paths, all of them where they are few.
 */
public final class RandomRunsTest {
  private static final int RUNS = 600;
  private static final int CALLS = 512;
  private static final int NO_WAY = Integer.MAX_VALUE;

  // ---- the reference

  private record Entry(String reading, int word, int itsClass, int base, int uses) {
    int cost() {
      return Math.max(0, base - 3 * uses);
    }
  }

  private record Segment(int start, int end, int entry, int itsClass, int cost) {
  }

  private record Path(int cost, List<Segment> segments) {
  }

  private record Best(int cost, BigInteger ways) {
    Best plus(int more) {
      return cost == NO_WAY ? this : new Best(cost + more, ways);
    }

    Best or(Best other) {
      if (cost == other.cost) {
        return new Best(cost, ways.add(other.ways));
      }
      return cost < other.cost ? this : other;
    }
  }

  private static final class State {
    List<Entry> entries = new ArrayList<>();
    int[][] connections = new int[7][7];
    int unknown = 100;
    String input = "";
    int[] constraints = new int[17];

    State copy() {
      State other = new State();
      other.entries = new ArrayList<>(entries);
      for (int i = 0; i < 7; i++) {
        other.connections[i] = connections[i].clone();
      }
      other.unknown = unknown;
      other.input = input;
      other.constraints = constraints.clone();
      return other;
    }
  }

  private static final Comparator<Path> ORDER = (a, b) -> {
    if (a.cost() != b.cost()) {
      return Integer.compare(a.cost(), b.cost());
    }
    for (int i = 0; i < Math.min(a.segments().size(), b.segments().size()); i++) {
      Segment s = a.segments().get(i);
      Segment t = b.segments().get(i);
      if (s.end() != t.end()) {
        return Integer.compare(t.end(), s.end());
      }
      if (s.entry() != t.entry()) {
        return Integer.compare(s.entry() < 0 ? 1000 : s.entry(), t.entry() < 0 ? 1000 : t.entry());
      }
    }
    return 0;
  };

  private static final class Reference {
    State now = new State();
    final List<State> before = new ArrayList<>();
    String text = "";
    private List<Path> known = null;

    private void edit() {
      known = null;
      before.add(now.copy());
      if (before.size() > 6) {
        before.remove(0);
      }
    }

    private static int errorOffset(String text, int limit) {
      for (int i = 0; i < text.length(); i++) {
        if (i == limit || text.charAt(i) < 'a' || text.charAt(i) > 'z') {
          return i;
        }
      }
      return -1;
    }

    private boolean isEntry(int entry) {
      return entry >= 0 && entry < now.entries.size();
    }

    private List<Segment> segments(boolean free) {
      List<Segment> all = new ArrayList<>();
      for (int start = 0; start < now.input.length(); start++) {
        for (int e = 0; e < now.entries.size(); e++) {
          Entry entry = now.entries.get(e);
          if (now.input.startsWith(entry.reading(), start)) {
            all.add(new Segment(start, start + entry.reading().length(), e, entry.itsClass(), entry.cost()));
          }
        }
        all.add(new Segment(start, start + 1, -5, 5, now.unknown));
      }
      if (!free) {
        all.removeIf(s -> breaks(s));
      }
      return all;
    }

    private boolean breaks(Segment s) {
      for (int gap = 1; gap < now.input.length(); gap++) {
        boolean inside = s.start() < gap && gap < s.end();
        boolean edge = s.start() == gap || s.end() == gap;
        if (inside && now.constraints[gap] == 1 || edge && now.constraints[gap] == 2) {
          return true;
        }
      }
      return false;
    }

    /** How many paths of these segments there are. */
    private BigInteger count(List<Segment> segments) {
      BigInteger[] to = new BigInteger[now.input.length() + 1];
      Arrays.fill(to, BigInteger.ZERO);
      to[0] = BigInteger.ONE;
      for (Segment s : segments) {
        to[s.end()] = to[s.end()].add(to[s.start()]);
      }
      return to[now.input.length()];
    }

    /** The smallest cost of a path of these segments, with the exact number of paths that have it. */
    private Best best(List<Segment> segments) {
      int n = now.input.length();
      Best[][] at = new Best[n + 1][7];
      for (Best[] row : at) {
        Arrays.fill(row, new Best(NO_WAY, BigInteger.ZERO));
      }
      at[0][6] = new Best(0, BigInteger.ONE);
      for (Segment s : segments) {
        for (int c = 0; c < 7; c++) {
          Best further = at[s.start()][c].plus(now.connections[c][s.itsClass()] + s.cost());
          at[s.end()][s.itsClass()] = at[s.end()][s.itsClass()].or(further);
        }
      }
      Best all = new Best(NO_WAY, BigInteger.ZERO);
      for (int c = 0; c < 7; c++) {
        all = all.or(at[n][c].plus(now.connections[c][6]));
      }
      return all;
    }

    /** The first twenty paths; of those with the same gap and last class, the order is that of their beginnings. */
    private List<Path> ranked() {
      int n = now.input.length();
      List<List<List<Path>>> at = new ArrayList<>();
      for (int gap = 0; gap <= n; gap++) {
        at.add(new ArrayList<>());
        for (int c = 0; c < 7; c++) {
          at.get(gap).add(new ArrayList<>());
        }
      }
      at.get(0).get(6).add(new Path(0, List.of()));
      for (Segment s : segments(false)) {
        for (int c = 0; c < 7; c++) {
          for (Path path : at.get(s.start()).get(c)) {
            insert(at.get(s.end()).get(s.itsClass()), path, now.connections[c][s.itsClass()] + s.cost(), List.of(s));
          }
        }
      }
      List<Path> all = new ArrayList<>();
      for (int c = 0; c < 7; c++) {
        for (Path path : at.get(n).get(c)) {
          insert(all, path, now.connections[c][6], List.of());
        }
      }
      return all;
    }

    private static void insert(List<Path> into, Path beginning, int more, List<Segment> last) {
      int cost = beginning.cost() + more;
      if (into.size() == 20 && cost > into.get(19).cost()) {
        return;
      }
      List<Segment> longer = new ArrayList<>(beginning.segments());
      longer.addAll(last);
      into.add(new Path(cost, longer));
      into.sort(ORDER);
      if (into.size() > 20) {
        into.remove(20);
      }
    }

    /** All paths, by trying every way; for small inputs. */
    private void collect(int gap, int last, Path so, List<Segment> segments, List<Path> into) {
      if (gap == now.input.length()) {
        into.add(new Path(so.cost() + now.connections[last][6], so.segments()));
        return;
      }
      for (Segment s : segments) {
        if (s.start() == gap) {
          List<Segment> longer = new ArrayList<>(so.segments());
          longer.add(s);
          collect(s.end(), s.itsClass(),
              new Path(so.cost() + now.connections[last][s.itsClass()] + s.cost(), longer), segments, into);
        }
      }
    }

    /** Where a late constraint leaves few paths, trying every beginning that leads nowhere would take for ever. */
    private List<Segment> withoutDeadEnds(List<Segment> segments) {
      boolean[] leadsOn = new boolean[now.input.length() + 1];
      leadsOn[now.input.length()] = true;
      for (int i = segments.size() - 1; i >= 0; i--) {
        leadsOn[segments.get(i).start()] |= leadsOn[segments.get(i).end()];
      }
      segments.removeIf(s -> !leadsOn[s.end()]);
      return segments;
    }

    private List<Path> paths() {
      if (known == null) {
        known = comparedPaths();
      }
      return known;
    }

    private List<Path> comparedPaths() {
      List<Path> ranked = ranked();
      if (count(segments(false)).compareTo(BigInteger.valueOf(300)) > 0) {
        return ranked;
      }
      List<Path> every = new ArrayList<>();
      collect(0, 6, new Path(0, List.of()), withoutDeadEnds(segments(false)), every);
      every.sort(ORDER);
      long cheapest = every.stream().filter(p -> p.cost() == every.get(0).cost()).count();
      if (!every.subList(0, Math.min(20, every.size())).equals(ranked)
          || !best(segments(false)).ways().equals(BigInteger.valueOf(cheapest))) {
        throw new IllegalStateException("the two references differ");
      }
      return ranked;
    }

    private static int capped(BigInteger count) {
      return count.min(BigInteger.valueOf(1000000000)).intValueExact();
    }

    int answer(int[] call) {
      int a = call[1];
      int b = call[2];
      int c = call[3];
      switch (call[0]) {
        case 0: return appendCharacter(a);
        case 1: { int length = text.length(); text = ""; return length; }
        case 2: return addEntry(a, b, c);
        case 3: return removeEntry(a);
        case 4: return now.entries.size();
        case 5: return isEntry(a) ? now.entries.get(a).word() : -1;
        case 6: return isEntry(a) ? now.entries.get(a).cost() : -1;
        case 7: return isEntry(a) ? now.entries.get(a).uses() : -1;
        case 8: return (int) now.entries.stream().filter(e -> e.reading().startsWith(text)).count();
        case 9: return setConnection(a, b, c);
        case 10: return setUnknownCost(a);
        case 11: return setInput();
        case 12: return now.input.length();
        case 13: return setConstraint(a, b);
        case 14: return segmentsAt(a);
        case 15: return capped(count(segments(false)));
        case 16: return ofPath(a, 0, 0);
        case 17: return ofPath(a, 0, 1);
        case 18: return ofPath(a, b, 2);
        case 19: return ofPath(a, b, 3);
        case 20: return bestThrough(a, b);
        case 21: return boundaryInBest(a);
        case 22: return capped(best(segments(false)).ways());
        case 23: return choose(a);
        case 24: return forget();
        default: return undo();
      }
    }

    private int appendCharacter(int code) {
      if (code < 0 || code > 255) {
        return -1;
      }
      if (text.length() == 20) {
        return -3;
      }
      text += (char) code;
      return text.length();
    }

    private int addEntry(int word, int itsClass, int cost) {
      if (word < 0 || word > 99 || itsClass < 0 || itsClass > 4 || cost < 0 || cost > 99) {
        return -1;
      }
      for (Entry e : now.entries) {
        if (e.reading().equals(text) && e.word() == word && e.itsClass() == itsClass) {
          return -2;
        }
      }
      if (now.entries.size() == 20) {
        return -3;
      }
      int offset = text.isEmpty() ? 0 : errorOffset(text, 6);
      if (offset >= 0) {
        return -10 - offset;
      }
      edit();
      now.entries.add(new Entry(text, word, itsClass, cost, 0));
      text = "";
      return now.entries.size() - 1;
    }

    private int removeEntry(int entry) {
      if (!isEntry(entry)) {
        return -1;
      }
      edit();
      now.entries.remove(entry);
      return now.entries.size();
    }

    private int setConnection(int left, int right, int cost) {
      if (left < 0 || left > 6 || right < 0 || right > 6 || cost < 0 || cost > 99) {
        return -1;
      }
      edit();
      int old = now.connections[left][right];
      now.connections[left][right] = cost;
      return old;
    }

    private int setUnknownCost(int cost) {
      if (cost < 0 || cost > 200) {
        return -1;
      }
      edit();
      int old = now.unknown;
      now.unknown = cost;
      return old;
    }

    private int setInput() {
      int offset = errorOffset(text, 16);
      if (offset >= 0) {
        return -10 - offset;
      }
      edit();
      now.input = text;
      now.constraints = new int[17];
      text = "";
      return now.input.length();
    }

    private int setConstraint(int gap, int constraint) {
      if (gap < 1 || gap > now.input.length() - 1 || constraint < 0 || constraint > 2) {
        return -1;
      }
      edit();
      int old = now.constraints[gap];
      now.constraints[gap] = constraint;
      return old;
    }

    private int segmentsAt(int gap) {
      if (gap < 0 || gap > now.input.length()) {
        return -1;
      }
      return (int) segments(true).stream().filter(s -> s.start() == gap && s.entry() >= 0).count();
    }

    private int ofPath(int rank, int index, int question) {
      if (rank < 0 || rank > 19 || index < 0) {
        return -1;
      }
      List<Path> paths = paths();
      if (rank >= paths.size()) {
        return -9;
      }
      Path path = paths.get(rank);
      if (question < 2) {
        return question == 0 ? path.cost() : path.segments().size();
      }
      if (index >= path.segments().size()) {
        return -9;
      }
      Segment segment = path.segments().get(index);
      return question == 2 ? segment.start() : segment.entry();
    }

    private int bestThrough(int entry, int start) {
      if (!isEntry(entry) || start < 0 || start > now.input.length()) {
        return -1;
      }
      List<Segment> all = segments(false);
      for (Segment s : all) {
        if (s.entry() == entry && s.start() == start) {
          List<Segment> rest = new ArrayList<>(all);
          rest.removeIf(t -> t != s && t.start() < s.end() && s.start() < t.end());
          int cost = best(rest).cost();
          return cost == NO_WAY ? -9 : cost;
        }
      }
      return -9;
    }

    private int boundaryInBest(int gap) {
      if (gap < 1 || gap > now.input.length() - 1) {
        return -1;
      }
      List<Segment> segments = segments(false);
      Best all = best(segments);
      if (all.cost() == NO_WAY) {
        return -9;
      }
      segments.removeIf(s -> s.start() < gap && gap < s.end());
      Best ending = best(segments);
      return ending.cost() > all.cost() ? 0 : ending.ways().equals(all.ways()) ? 2 : 1;
    }

    private int choose(int rank) {
      if (rank < 0 || rank > 19) {
        return -1;
      }
      List<Path> paths = paths();
      if (rank >= paths.size()) {
        return -2;
      }
      edit();
      int[] entries = paths.get(rank).segments().stream().mapToInt(Segment::entry).filter(e -> e >= 0).distinct().toArray();
      int increased = 0;
      for (int e : entries) {
        Entry old = now.entries.get(e);
        if (old.uses() < 9) {
          increased++;
          now.entries.set(e, new Entry(old.reading(), old.word(), old.itsClass(), old.base(), old.uses() + 1));
        }
      }
      return increased;
    }

    private int forget() {
      int sum = now.entries.stream().mapToInt(Entry::uses).sum();
      if (sum == 0) {
        return -2;
      }
      edit();
      now.entries.replaceAll(e -> new Entry(e.reading(), e.word(), e.itsClass(), e.base(), 0));
      return sum;
    }

    private int undo() {
      if (before.isEmpty()) {
        return -2;
      }
      known = null;
      now = before.remove(before.size() - 1);
      return before.size();
    }
  }

  // ---- the program

  private static int answer(ReadingConverter x, int[] call) {
    int a = call[1];
    int b = call[2];
    int c = call[3];
    switch (call[0]) {
      case 0: return x.appendCharacter(a);
      case 1: return x.clearText();
      case 2: return x.addEntry(a, b, c);
      case 3: return x.removeEntry(a);
      case 4: return x.entryCount();
      case 5: return x.wordOf(a);
      case 6: return x.costOf(a);
      case 7: return x.useCount(a);
      case 8: return x.entriesWithPrefix();
      case 9: return x.setConnection(a, b, c);
      case 10: return x.setUnknownCost(a);
      case 11: return x.setInput();
      case 12: return x.inputLength();
      case 13: return x.setConstraint(a, b);
      case 14: return x.segmentsAt(a);
      case 15: return x.pathCount();
      case 16: return x.pathCost(a);
      case 17: return x.segmentCount(a);
      case 18: return x.segmentStart(a, b);
      case 19: return x.segmentEntry(a, b);
      case 20: return x.bestThrough(a, b);
      case 21: return x.boundaryInBest(a);
      case 22: return x.bestCount();
      case 23: return x.choose(a);
      case 24: return x.forget();
      default: return x.undo();
    }
  }

  // ---- the draw

  /** Mostly inside the range, now and then just outside or far away. */
  private static int around(Random random, int least, int greatest) {
    int kind = random.nextInt(40);
    if (kind == 0) {
      return least - 1;
    }
    if (kind == 1) {
      return greatest + 1;
    }
    if (kind == 2) {
      return random.nextInt();
    }
    return least + random.nextInt(Math.max(1, greatest - least + 1));
  }

  /** What a run is like: few costs make many ties, few letters make many segments. */
  private static final class Style {
    final int letters;
    final int costs;
    final int words;
    final int longest;

    Style(Random random) {
      letters = 1 + random.nextInt(3);
      costs = random.nextInt(3) == 0 ? 100 : 2 + random.nextInt(6);
      words = random.nextBoolean() ? 3 : 100;
      longest = 1 + random.nextInt(6);
    }
  }

  private static void push(Deque<int[]> calls, int which, int... arguments) {
    int[] call = {which, 0, 0, 0};
    System.arraycopy(arguments, 0, call, 1, arguments.length);
    calls.add(call);
  }

  private static void pushText(Deque<int[]> calls, Random random, Style style, int length) {
    // What an error left in the buffer would else pile up to its limit.
    if (random.nextInt(10) != 0) {
      push(calls, 1);
    }
    for (int i = 0; i < length; i++) {
      boolean letter = random.nextInt(100) != 0;
      push(calls, 0, letter ? 'a' + random.nextInt(style.letters) : around(random, 0, 255));
    }
  }

  private static void pushEdit(Deque<int[]> calls, Random random, Style style, Reference reference) {
    int n = reference.now.input.length();
    int entries = reference.now.entries.size();
    switch (random.nextInt(16)) {
      case 0: case 1: case 2: case 3: case 4: case 5:
        pushText(calls, random, style, random.nextInt(30) == 0 ? random.nextInt(22) : 1 + random.nextInt(style.longest));
        push(calls, 2, around(random, 0, style.words - 1), around(random, 0, 4), around(random, 0, style.costs - 1));
        break;
      case 6: case 7:
        pushText(calls, random, style, random.nextInt(30) == 0 ? random.nextInt(22) : random.nextInt(17));
        push(calls, 11);
        break;
      case 8: push(calls, random.nextInt(20) < style.longest ? 12 : 3, around(random, 0, entries - 1)); break;
      case 9: push(calls, 9, around(random, 0, 6), around(random, 0, 6), around(random, 0, style.costs - 1)); break;
      case 10: push(calls, 10, around(random, 0, style.costs == 100 ? 200 : style.costs)); break;
      case 11: case 12: push(calls, 13, around(random, 1, n - 1), around(random, 0, 2)); break;
      case 13:
        // Now and then often enough that use counts come to their limit.
        for (int i = random.nextInt(8) == 0 ? 12 : 1; i > 0; i--) {
          push(calls, 23, random.nextBoolean() ? 0 : around(random, 0, 19));
        }
        break;
      case 14: push(calls, 24 + random.nextInt(2)); break;
      default: push(calls, random.nextInt(4) == 0 ? 1 : 25); break;
    }
  }

  private static void pushQuestions(Deque<int[]> calls, Random random, Reference reference) {
    int n = reference.now.input.length();
    int entries = reference.now.entries.size();
    int rank = random.nextInt(4) == 0 ? around(random, 0, 19) : random.nextInt(Math.max(1, reference.paths().size()));
    switch (random.nextInt(9)) {
      case 0: push(calls, 4); push(calls, 8); push(calls, 12); break;
      case 1: push(calls, 5 + random.nextInt(3), around(random, 0, entries - 1)); break;
      case 2: push(calls, 14, around(random, 0, n)); break;
      case 3: push(calls, 15); push(calls, 22); break;
      case 4: push(calls, 16, rank); push(calls, 16, around(random, 0, 19)); break;
      case 5: push(calls, 17, rank); push(calls, 17, around(random, 0, 19)); break;
      case 6:
        push(calls, 18, rank, around(random, 0, n));
        push(calls, 19, rank, around(random, 0, Math.max(0, n / 2)));
        break;
      case 7: push(calls, 21, around(random, 1, n - 1)); break;
      default: pushBestThrough(calls, random, reference); break;
    }
  }

  private static void pushBestThrough(Deque<int[]> calls, Random random, Reference reference) {
    List<Segment> segments = reference.segments(true);
    segments.removeIf(s -> s.entry() < 0);
    if (!segments.isEmpty()) {
      Segment segment = segments.get(random.nextInt(segments.size()));
      push(calls, 20, segment.entry(), segment.start());
    }
    push(calls, 20, around(random, 0, reference.now.entries.size() - 1), around(random, 0, reference.now.input.length()));
  }

  private static boolean runHolds(int seed) {
    Random random = new Random(seed);
    Style style = new Style(random);
    ReadingConverter x = new ReadingConverter();
    Reference reference = new Reference();
    Deque<int[]> calls = new ArrayDeque<>();
    for (int i = 0; i < CALLS; i++) {
      while (calls.isEmpty()) {
        if (random.nextInt(3) == 0) {
          pushEdit(calls, random, style, reference);
        } else {
          pushQuestions(calls, random, reference);
        }
      }
      int[] call = calls.remove();
      int want = reference.answer(call);
      int got = answer(x, call);
      if (got != want) {
        System.out.println("run " + seed + ", call " + i + " " + Arrays.toString(call)
            + " answered " + got + ", due is " + want);
        return false;
      }
    }
    return true;
  }

  public static void main(String[] args) {
    int wrong = 0;
    for (int seed = 1; seed <= RUNS; seed++) {
      if (!runHolds(seed)) {
        wrong++;
      }
    }
    System.out.println(wrong == 0 ? "the random runs hold" : wrong + " random runs went wrong");
    if (wrong != 0) {
      System.exit(1);
    }
  }
}
