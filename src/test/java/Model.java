import java.util.ArrayList;
import java.util.Arrays;
import java.util.List;
import java.util.regex.Matcher;
import java.util.regex.Pattern;

/**
 * The document told a second time, in another way than the program: by kinds that are classes, by
 * cars that are copied whole, and by a text that is cut into tokens first.
 */
final class Model {
  /** A kind as a class under the class of the kind above. */
  static class Plain {
    int takes(Kid k, Place p) { return 10; }
    int snug(Kid k, Place p) { return 9 - p.twists; }
    int frets(Kid k, int m, boolean alone) { return m % 3 == 0 ? 1 : 0; }
  }

  static class Archer extends Plain {
    @Override int takes(Kid k, Place p) { return super.takes(k, p) + 3 * k.arch; }
    @Override int snug(Kid k, Place p) { return super.snug(k, p) - k.arch / 2; }
    @Override int frets(Kid k, int m, boolean a) { return super.frets(k, m, a) + (k.tight > 6 ? 1 : 0); }
  }

  static class Big extends Plain {
    @Override int takes(Kid k, Place p) { return super.takes(k, p) / 2; }
    @Override int snug(Kid k, Place p) { return super.snug(k, p) - k.size / 40; }
  }

  static class Baby extends Plain {
    @Override int takes(Kid k, Place p) { return super.takes(k, p) + (p.turned == 0 ? 5 : 0); }
    @Override int snug(Kid k, Place p) { return super.snug(k, p) - (p.turned == 0 ? 4 : 0); }
    @Override int frets(Kid k, int m, boolean a) { return super.frets(k, m, a) + (a ? 1 : 0); }
  }

  static class Howler extends Archer {
    @Override int takes(Kid k, Place p) { return super.takes(k, p) * (k.mood < 3 ? 2 : 1); }
    @Override int frets(Kid k, int m, boolean a) { return 2 * super.frets(k, m, a); }
  }

  static class Self extends Big {
    @Override int takes(Kid k, Place p) { return k.mood >= 7 ? 0 : super.takes(k, p); }
    @Override int snug(Kid k, Place p) { return super.snug(k, p) - 1; }
  }

  static final Plain[] KINDS = {new Plain(), new Archer(), new Big(), new Baby(), new Howler(), new Self()};
  static final List<String> NAMES = List.of("child", "archer", "big", "baby", "howler", "self");

  static final class Kid {
    int kind, size = 30, mood = 5, coat, arch, tight;
    Kid(int kind) { this.kind = kind; }
    Kid copy() {
      Kid k = new Kid(kind);
      k.size = size; k.mood = mood; k.coat = coat; k.arch = arch; k.tight = tight;
      return k;
    }
  }

  static final class Place {
    int twists, crumbs, turned, wear, who = -1;
    Place copy() {
      Place p = new Place();
      p.twists = twists; p.crumbs = crumbs; p.turned = turned; p.wear = wear; p.who = who;
      return p;
    }
  }

  static final class World {
    List<Kid> kids = new ArrayList<>();
    List<Place> places = new ArrayList<>(List.of(new Place(), new Place(), new Place()));
    int rain, minute, spent;

    World copy() {
      World w = new World();
      w.places.clear();
      for (Kid k : kids) w.kids.add(k.copy());
      for (Place p : places) w.places.add(p.copy());
      w.rain = rain; w.minute = minute; w.spent = spent;
      return w;
    }

    int where(int kid) {
      for (int s = 0; s < 3; s++) if (places.get(s).who == kid) return s;
      return -1;
    }

    boolean taken(int s) { return s >= 0 && s < 3 && places.get(s).who >= 0; }

    int beside(int s) { return (taken(s - 1) ? 1 : 0) + (taken(s + 1) ? 1 : 0); }

    int seconds(int kid, int s) {
      Kid k = kids.get(kid);
      Place p = places.get(s);
      int way = s == 1 ? 8 * beside(1) : taken(1) ? 3 : 0;
      return KINDS[k.kind].takes(k, p) + 5 * p.twists + 2 * p.crumbs + (k.coat == 1 ? 4 : 0) + rain + way;
    }

    int snug(int kid, int s) {
      Kid k = kids.get(kid);
      int snug = KINDS[k.kind].snug(k, places.get(s)) - (k.coat == 1 ? 3 : 0);
      return snug < 0 ? 0 : snug;
    }

    int frets(int kid) {
      int s = where(kid);
      return KINDS[kids.get(kid).kind].frets(kids.get(kid), minute, s < 0 || beside(s) == 0);
    }

    int click(int kid, int s) {
      Kid k = kids.get(kid);
      int takes = seconds(kid, s);
      spent = Math.min(99999, spent + takes);
      k.tight = snug(kid, s);
      places.get(s).wear++;
      places.get(s).who = kid;
      if (KINDS[k.kind] instanceof Archer && k.arch < 9) k.arch++;
      return takes;
    }

    void out(int kid) {
      places.get(where(kid)).who = -1;
      kids.get(kid).tight = 0;
    }

    void bribe(int kid) {
      kids.get(kid).mood = Math.min(9, kids.get(kid).mood + 3);
      if (where(kid) >= 0) {
        Place p = places.get(where(kid));
        p.crumbs = Math.min(9, p.crumbs + 1);
      }
    }

    World minutes(int n) {
      for (int i = 0; i < n; i++) minute();
      return this;
    }

    void minute() {
      int[] less = new int[3];
      for (int s = 0; s < 3; s++) if (taken(s)) less[s] = frets(places.get(s).who);
      for (int s = 0; s < 3; s++) {
        if (!taken(s)) continue;
        Kid k = kids.get(places.get(s).who);
        k.mood = Math.max(0, k.mood - less[s]);
      }
      for (int s = 0; s < 3; s++) {
        if (!taken(s)) continue;
        int who = places.get(s).who;
        Kid k = kids.get(who);
        if (k.mood < 2) {
          if (k.tight > 0) k.tight--;
          if (k.tight == 0) out(who);
        }
      }
      minute++;
    }

    int sitting() {
      int set = 0;
      for (Place p : places) if (p.who >= 0) set += 1 << p.who;
      return set;
    }
  }

  World w = new World();
  World kept = null;
  String tape = "";
  long[][] sheets = new long[4][];
  int[] bits = new int[4];
  int[] told = new int[7];

  int tell(int finding) {
    told[-1000000001 - finding]++;
    return finding;
  }

  boolean kid(int c) { return 0 <= c && c < w.kids.size(); }

  static boolean in(int v, int least, int most) { return least <= v && v <= most; }

  int seat(int s, int what, int v) {
    if (!in(s, 0, 2) || !in(what, 0, 2) || !in(v, 0, new int[] {5, 9, 1}[what])) return tell(Due.BEYOND);
    int was = seatOf(s, what);
    Place p = w.places.get(s);
    if (what == 0) p.twists = v; else if (what == 1) p.crumbs = v; else p.turned = v;
    return was;
  }

  int seatOf(int s, int what) {
    if (!in(s, 0, 2) || !in(what, 0, 4)) return tell(Due.BEYOND);
    Place p = w.places.get(s);
    return new int[] {p.twists, p.crumbs, p.turned, p.wear, p.who}[what];
  }

  int rain(int v) {
    if (!in(v, 0, 9)) return tell(Due.BEYOND);
    int was = w.rain;
    w.rain = v;
    return was;
  }

  int child(int kind) {
    if (!in(kind, 0, 5)) return tell(Due.BEYOND);
    if (w.kids.size() == 6) return tell(Due.FULL);
    w.kids.add(new Kid(kind));
    return w.kids.size() - 1;
  }

  int of(int c, int what) {
    if (!kid(c) || !in(what, 0, 7)) return tell(Due.BEYOND);
    Kid k = w.kids.get(c);
    return new int[] {k.kind, k.size, k.mood, k.coat, k.arch, k.tight, w.where(c), w.frets(c)}[what];
  }

  int set(int c, int what, int v) {
    if (!kid(c) || !in(what, 1, 4) || !in(v, 0, new int[] {0, 99, 9, 1, 9}[what])) return tell(Due.BEYOND);
    int was = of(c, what);
    Kid k = w.kids.get(c);
    if (what == 1) k.size = v; else if (what == 2) k.mood = v; else if (what == 3) k.coat = v; else k.arch = v;
    return was;
  }

  int turn(int c, int kind) {
    if (!kid(c) || !in(kind, 0, 5)) return tell(Due.BEYOND);
    int was = w.kids.get(c).kind;
    w.kids.get(c).kind = kind;
    return was;
  }

  int as(int c, int kind) {
    if (!kid(c) || !in(kind, 0, 5)) return tell(Due.BEYOND);
    boolean is = KINDS[kind].getClass().isInstance(KINDS[w.kids.get(c).kind]);
    return is ? w.kids.get(c).mood : tell(Due.KIND);
  }

  int seconds(int c, int s) { return kid(c) && in(s, 0, 2) ? w.seconds(c, s) : tell(Due.BEYOND); }

  int snug(int c, int s) { return kid(c) && in(s, 0, 2) ? w.snug(c, s) : tell(Due.BEYOND); }

  int click(int c, int s) {
    if (!kid(c) || !in(s, 0, 2)) return tell(Due.BEYOND);
    if (w.where(c) >= 0 || w.taken(s)) return tell(Due.STATE);
    w.click(c, s);
    return w.kids.get(c).tight;
  }

  int letOut(int c) {
    if (!kid(c)) return tell(Due.BEYOND);
    int s = w.where(c);
    if (s < 0) return tell(Due.STATE);
    w.out(c);
    return s;
  }

  int bribe(int c) {
    if (!kid(c)) return tell(Due.BEYOND);
    w.bribe(c);
    return w.kids.get(c).mood;
  }

  int drive(int n) {
    if (!in(n, 1, 60)) return tell(Due.BEYOND);
    if (w.minute + n > 9999) return tell(Due.STATE);
    return w.minutes(n).sitting();
  }

  int now(int what) {
    if (!in(what, 0, 5)) return tell(Due.BEYOND);
    int moods = w.kids.stream().mapToInt(k -> k.mood).sum();
    int tights = w.kids.stream().mapToInt(k -> k.tight).sum();
    return new int[] {w.minute, w.spent, w.rain, w.sitting(), moods, tights}[what];
  }

  int on(int c, int n, int what) {
    if (!kid(c) || !in(n, 0, 60) || !in(what, 0, 1)) return tell(Due.BEYOND);
    Kid k = w.copy().minutes(n).kids.get(c);
    return what == 0 ? k.mood : k.tight;
  }

  int out(int c) {
    if (!kid(c)) return tell(Due.BEYOND);
    if (w.where(c) < 0) return tell(Due.STATE);
    for (int n = 1; n <= 60; n++) if (w.copy().minutes(n).where(c) < 0) return n;
    return tell(Due.NONE);
  }

  int firstOut() {
    int first = 61;
    for (int c = 0; c < w.kids.size(); c++) {
      if (w.where(c) < 0) continue;
      World then = w.copy();
      for (int n = 1; n <= 60; n++) {
        then.minute();
        if (then.where(c) < 0) first = Math.min(first, n);
      }
    }
    return first > 60 ? tell(Due.NONE) : first;
  }

  private int bestSeat(int c, boolean bySeconds) {
    if (!kid(c)) return tell(Due.BEYOND);
    if (w.where(c) >= 0) return tell(Due.STATE);
    int best = -1;
    for (int s = 2; s >= 0; s--) {
      if (w.taken(s)) continue;
      boolean better = best < 0 || (bySeconds ? w.seconds(c, s) <= w.seconds(c, best) : w.snug(c, s) >= w.snug(c, best));
      if (better) best = s;
    }
    return best < 0 ? tell(Due.NONE) : best;
  }

  int quick(int c) { return bestSeat(c, true); }

  int safe(int c) { return bestSeat(c, false); }

  /** Seconds and the three steps of the best way; steps are told by numbers so that ways can be compared. */
  private int[] bestWay(int set) {
    int[] best = null;
    int[] three = new int[3];
    for (int c = 5, i = 2; c >= 0; c--) if ((set >> c & 1) == 1) three[i--] = c;
    int[][] orders = {{2, 1, 0}, {1, 2, 0}, {2, 0, 1}, {0, 2, 1}, {1, 0, 2}, {0, 1, 2}};
    for (int[] kids : orders) {
      for (int[] seats : orders) {
        World then = w.copy();
        int[] way = new int[4];
        for (int i = 0; i < 3; i++) {
          way[0] += then.click(three[kids[i]], seats[i]);
          way[i + 1] = 10 * three[kids[i]] + seats[i];
        }
        if (best == null || Arrays.compare(way, best) < 0) best = way;
      }
    }
    return best;
  }

  int all(int set) {
    if (set < 0 || set >> w.kids.size() != 0) return tell(Due.BEYOND);
    if (Integer.bitCount(set) != 3) return tell(Due.SIZE);
    if (w.sitting() != 0) return tell(Due.STATE);
    return bestWay(set)[0];
  }

  int way(int set, int step) {
    if (set < 0 || set >> w.kids.size() != 0 || !in(step, 0, 2)) return tell(Due.BEYOND);
    if (Integer.bitCount(set) != 3) return tell(Due.SIZE);
    if (w.sitting() != 0) return tell(Due.STATE);
    return bestWay(set)[step + 1];
  }

  int kind(int c, int s) {
    if (!kid(c) || !in(s, 0, 2)) return tell(Due.BEYOND);
    int best = 5;
    int fewest = Integer.MAX_VALUE;
    for (int kind = 5; kind >= 0; kind--) {
      World then = w.copy();
      then.kids.get(c).kind = kind;
      if (then.seconds(c, s) <= fewest) {
        fewest = then.seconds(c, s);
        best = kind;
      }
    }
    return best;
  }

  int bribes(int c, int n) {
    if (!kid(c) || !in(n, 1, 60)) return tell(Due.BEYOND);
    if (w.where(c) < 0) return tell(Due.STATE);
    for (int b = 0; b <= 9; b++) {
      World then = w.copy();
      then.kids.get(c).mood = Math.min(9, then.kids.get(c).mood + 3 * b);
      if (then.minutes(n).where(c) >= 0) return b;
    }
    return tell(Due.NONE);
  }

  int coat(int c, int s) {
    if (!kid(c) || !in(s, 0, 2)) return tell(Due.BEYOND);
    return 1000 + (w.kids.get(c).coat == 1 ? 4 : 0) - w.rain;
  }

  int mood(int c, int n) {
    if (!kid(c) || !in(n, 1, 60)) return tell(Due.BEYOND);
    if (w.where(c) < 0) return tell(Due.STATE);
    for (int mood = 0; mood <= 9; mood++) {
      World then = w.copy();
      then.kids.get(c).mood = mood;
      if (then.minutes(n).where(c) >= 0) return mood;
    }
    return tell(Due.NONE);
  }

  int worst(int n) {
    if (!in(n, 0, 60)) return tell(Due.BEYOND);
    World then = w.copy().minutes(n);
    int worst = -1;
    for (int c = w.kids.size() - 1; c >= 0; c--) {
      if (w.where(c) < 0) continue;
      if (worst < 0 || then.kids.get(c).mood <= then.kids.get(worst).mood) worst = c;
    }
    return worst < 0 ? tell(Due.NONE) : worst;
  }

  int feed(int bytes, int n) {
    if (!in(n, 1, 4)) return tell(Due.BEYOND);
    if (tape.length() + n > 120) return tell(Due.FULL);
    String more = "";
    for (int i = 0; i < n; i++, bytes >>= 8) more = (char) (bytes & 255) + more;
    tape += more;
    return tape.length();
  }

  int wipe() {
    int had = tape.length();
    tape = "";
    return had;
  }

  private static final class Fault extends Exception {
    final int place;
    Fault(int place) { this.place = place; }
  }

  private List<String> tokens;
  private List<Integer> starts;
  private int at;

  int car() {
    tokens = new ArrayList<>();
    starts = new ArrayList<>();
    at = 0;
    Matcher m = Pattern.compile("[a-z]+|[0-9]+|[^ ]", Pattern.DOTALL).matcher(tape);
    while (m.find()) {
      tokens.add(m.group());
      starts.add(m.start());
    }
    starts.add(tape.length());
    tape = "";
    World then = w.copy();
    try {
      int items = 0;
      do {
        item(then);
        items++;
      } while (at < tokens.size() && take(";"));
      if (at < tokens.size() || tokens.get(at - 1).equals(";")) throw new Fault(starts.get(at));
      w = then;
      return items;
    } catch (Fault f) {
      return -1 - f.place;
    }
  }

  private boolean take(String token) {
    if (at >= tokens.size() || !tokens.get(at).equals(token)) return false;
    at++;
    return true;
  }

  private int number(int most) throws Fault {
    if (at >= tokens.size() || !tokens.get(at).matches("0*[0-9]{1,3}")) throw new Fault(starts.get(at));
    int v = new java.math.BigInteger(tokens.get(at)).intValueExact();
    if (v > most) throw new Fault(starts.get(at));
    at++;
    return v;
  }

  private void item(World then) throws Fault {
    if (at < tokens.size() && NAMES.contains(tokens.get(at))) {
      if (then.kids.size() == 6) throw new Fault(starts.get(at));
      Kid k = new Kid(NAMES.indexOf(tokens.get(at++)));
      if (take("size")) k.size = number(99);
      if (take("mood")) k.mood = number(9);
      if (take("coat")) k.coat = 1;
      then.kids.add(k);
    } else if (take("seat")) {
      Place p = then.places.get(number(2));
      if (take("twists")) p.twists = number(5);
      if (take("crumbs")) p.crumbs = number(9);
      p.turned = take("turned") ? 1 : 0;
    } else if (take("rain")) {
      then.rain = number(9);
    } else {
      throw new Fault(starts.get(at));
    }
  }

  int sheet(int s, int b, int n) {
    if (!in(s, 0, 3) || !List.of(0, 8, 16, 64).contains(b)) return tell(Due.BEYOND);
    if (n < 0) return tell(Due.SIZE);
    if (n > 40) return tell(Due.BEYOND);
    bits[s] = b;
    sheets[s] = b == 0 ? null : new long[n];
    return b == 0 ? 0 : n;
  }

  long write(int s, int i, long v) {
    if (!in(s, 0, 3)) return tell(Due.BEYOND);
    if (sheets[s] == null) return tell(Due.MISSING);
    if (!in(i, 0, sheets[s].length - 1)) return tell(Due.BEYOND);
    long was = sheets[s][i];
    sheets[s][i] = v << (64 - bits[s]) >> (64 - bits[s]);
    return was;
  }

  int copy(int s, int from, int t, int to, int n) {
    if (!in(s, 0, 3) || !in(t, 0, 3)) return tell(Due.BEYOND);
    if (sheets[s] == null || sheets[t] == null) return tell(Due.MISSING);
    if (bits[s] != bits[t]) return tell(Due.KIND);
    boolean few = (long) from + n > sheets[s].length || (long) to + n > sheets[t].length;
    if (few || from < 0 || to < 0 || n < 0) return tell(Due.BEYOND);
    long[] were = sheets[s].clone();
    for (int i = 0; i < n; i++) sheets[t][to + i] = were[from + i];
    return n;
  }

  int lays(int s) {
    if (!in(s, 0, 3)) return tell(Due.BEYOND);
    if (sheets[s] == null) return tell(Due.MISSING);
    int came = 0;
    for (int i = 0; i < sheets[s].length; i++) {
      if (i >= w.kids.size() || sheets[s][i] < 0 || sheets[s][i] > 9) continue;
      w.kids.get(i).mood = (int) sheets[s][i];
      came++;
    }
    return came;
  }

  int book(int s, int c) {
    if (!in(s, 0, 3)) return tell(Due.BEYOND);
    if (sheets[s] == null) return tell(Due.MISSING);
    if (!kid(c)) return tell(Due.BEYOND);
    for (int i = 0; i < sheets[s].length; i++) sheets[s][i] = w.copy().minutes(i).kids.get(c).mood;
    return sheets[s].length;
  }

  int read(int s, int c) {
    if (!in(s, 0, 3)) return tell(Due.BEYOND);
    if (sheets[s] == null) return tell(Due.MISSING);
    if (!kid(c)) return tell(Due.BEYOND);
    int pairs = 0;
    for (int kind = 0; kind < 6; kind++) {
      for (int tight = 0; tight <= (w.where(c) < 0 ? 0 : 9); tight++) {
        World then = w.copy();
        then.kids.get(c).kind = kind;
        then.kids.get(c).tight = tight;
        boolean so = true;
        for (long each : sheets[s]) {
          so &= each == then.kids.get(c).mood;
          then.minute();
        }
        if (so) pairs++;
      }
    }
    return pairs;
  }

  int image() {
    kept = w.copy();
    return 1;
  }

  int undo() {
    if (kept == null) return tell(Due.NONE);
    w = kept.copy();
    return w.kids.size();
  }

  int tear() {
    int was = kept == null ? 0 : 1;
    kept = null;
    return was;
  }

  int count(int what) {
    if (!in(what, 0, 3)) return tell(Due.BEYOND);
    int wear = w.places.stream().mapToInt(p -> p.wear).sum();
    return new int[] {w.kids.size(), tape.length(), Integer.bitCount(w.sitting()), wear}[what];
  }

  int status(int which) {
    if (!in(which, -1, 6)) return tell(Due.BEYOND);
    return which < 0 ? Arrays.stream(told).sum() : told[which];
  }
}
