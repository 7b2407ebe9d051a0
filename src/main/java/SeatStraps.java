/** A car of three seats in the back, and the children that are strapped in there. */
public final class SeatStraps {
  private static final int BEYOND = 0;
  private static final int FULL = 1;
  private static final int KIND = 2;
  private static final int NONE = 3;
  private static final int STATE = 4;
  private static final int MISSING = 5;
  private static final int SIZE = 6;
  private static final int FINDINGS = 7;
  private static final int FIRST_FINDING = -1000000001;

  private static final int SEATS = 3;
  private static final int MIDDLE = 1;
  private static final int NOBODY = -1;
  private static final int NOWHERE = -1;
  private static final int MOST_CHILDREN = 6;
  private static final int MOST_TWISTS = 5;
  private static final int MOST_CRUMBS = 9;
  private static final int MOST_WEAR = 9999;
  private static final int MOST_RAIN = 9;
  private static final int MOST_MINUTE = 9999;
  private static final int MOST_SPENT = 99999;
  private static final int MOST_SIZE = 99;
  private static final int MOST_MOOD = 9;
  private static final int MOST_ARCH = 9;
  private static final int MOST_TIGHT = 9;
  private static final int MOST_BRIBES = 9;
  private static final int MOST_MINUTES = 60;
  private static final int MOST_BYTES = 120;
  private static final int SHEETS = 4;
  private static final int MOST_NUMBERS = 40;

  private static final int KINDS = 6;
  private static final int CHILD = 0;
  private static final int ARCHER = 1;
  private static final int BIG = 2;
  private static final int BABY = 3;
  private static final int HOWLER = 4;
  private static final int SELF = 5;

  private final Car live = new Car();
  private final Car kept = new Car();
  // What only might be is tried out here, so that no call makes objects of its own.
  private final Car trial = new Car();
  private final CarText text = new CarText();
  private final Ways ways = new Ways();
  private final Sheet[] sheets = new Sheet[SHEETS];
  private final int[] told = new int[FINDINGS];
  private boolean somethingKept = false;

  public SeatStraps() {
    for (int s = 0; s < SHEETS; s++) {
      sheets[s] = new Sheet();
    }
  }

  // ---- seats

  public int seat(int seat, int what, int v) {
    if (!isSeat(seat) || what < 0 || what > 2 || v < 0 || v > Seat.most(what)) {
      return tell(BEYOND);
    }
    int was = live.seats[seat].get(what);
    live.seats[seat].put(what, v);
    return was;
  }

  public int seatOf(int seat, int what) {
    if (!isSeat(seat) || what < 0 || what > 4) {
      return tell(BEYOND);
    }
    return live.seats[seat].get(what);
  }

  public int rain(int v) {
    if (v < 0 || v > MOST_RAIN) {
      return tell(BEYOND);
    }
    int was = live.rain;
    live.rain = v;
    return was;
  }

  // ---- children

  public int child(int kind) {
    if (!isKind(kind)) {
      return tell(BEYOND);
    }
    if (live.isFull()) {
      return tell(FULL);
    }
    return live.add(kind);
  }

  public int of(int child, int what) {
    if (!live.has(child) || what < 0 || what > 7) {
      return tell(BEYOND);
    }
    if (what == 7) {
      return live.fretsNow(live.children[child]);
    }
    return live.children[child].get(what);
  }

  public int set(int child, int what, int v) {
    if (!live.has(child) || what < 1 || what > 4 || v < 0 || v > Child.most(what)) {
      return tell(BEYOND);
    }
    int was = live.children[child].get(what);
    live.children[child].put(what, v);
    return was;
  }

  public int turn(int child, int kind) {
    if (!live.has(child) || !isKind(kind)) {
      return tell(BEYOND);
    }
    int was = live.children[child].kind;
    live.children[child].kind = kind;
    return was;
  }

  public int as(int child, int kind) {
    if (!live.has(child) || !isKind(kind)) {
      return tell(BEYOND);
    }
    if (!Kinds.isOneOf(live.children[child].kind, kind)) {
      return tell(KIND);
    }
    return live.children[child].mood;
  }

  public int seconds(int child, int seat) {
    if (!live.has(child) || !isSeat(seat)) {
      return tell(BEYOND);
    }
    return live.secondsFor(child, seat);
  }

  public int snug(int child, int seat) {
    if (!live.has(child) || !isSeat(seat)) {
      return tell(BEYOND);
    }
    return live.snugFor(child, seat);
  }

  // ---- clicks, minutes

  public int click(int child, int seat) {
    if (!live.has(child) || !isSeat(seat)) {
      return tell(BEYOND);
    }
    if (live.children[child].sits() || live.seats[seat].isTaken()) {
      return tell(STATE);
    }
    live.clickIn(child, seat);
    return live.children[child].tight;
  }

  public int letOut(int child) {
    if (!live.has(child)) {
      return tell(BEYOND);
    }
    int seat = live.children[child].place;
    if (!isSeat(seat)) {
      return tell(STATE);
    }
    live.getOut(seat);
    return seat;
  }

  public int bribe(int child) {
    if (!live.has(child)) {
      return tell(BEYOND);
    }
    live.giveBribe(child);
    return live.children[child].mood;
  }

  public int drive(int n) {
    if (n < 1 || n > MOST_MINUTES) {
      return tell(BEYOND);
    }
    if (live.minute + n > MOST_MINUTE) {
      return tell(STATE);
    }
    live.passMinutes(n);
    return live.sitting();
  }

  public int now(int what) {
    switch (what) {
      case 0:
        return live.minute;
      case 1:
        return live.spent;
      case 2:
        return live.rain;
      case 3:
        return live.sitting();
      case 4:
        return live.moods();
      case 5:
        return live.tights();
      default:
        return tell(BEYOND);
    }
  }

  public int on(int child, int n, int what) {
    if (!live.has(child) || n < 0 || n > MOST_MINUTES || what < 0 || what > 1) {
      return tell(BEYOND);
    }
    trial.become(live);
    trial.passMinutes(n);
    return what == 0 ? trial.children[child].mood : trial.children[child].tight;
  }

  public int out(int child) {
    if (!live.has(child)) {
      return tell(BEYOND);
    }
    if (!live.children[child].sits()) {
      return tell(STATE);
    }
    trial.become(live);
    for (int n = 1; n <= MOST_MINUTES; n++) {
      trial.passMinute();
      if (!trial.children[child].sits()) {
        return n;
      }
    }
    return tell(NONE);
  }

  public int firstOut() {
    trial.become(live);
    int atFirst = live.sitting();
    for (int n = 1; n <= MOST_MINUTES; n++) {
      trial.passMinute();
      if (trial.sitting() != atFirst) {
        return n;
      }
    }
    return tell(NONE);
  }

  // ---- what is best

  public int quick(int child) {
    if (!live.has(child)) {
      return tell(BEYOND);
    }
    if (live.children[child].sits()) {
      return tell(STATE);
    }
    int best = live.quickestSeat(child);
    return best == NOWHERE ? tell(NONE) : best;
  }

  public int safe(int child) {
    if (!live.has(child)) {
      return tell(BEYOND);
    }
    if (live.children[child].sits()) {
      return tell(STATE);
    }
    int best = live.snuggestSeat(child);
    return best == NOWHERE ? tell(NONE) : best;
  }

  public int all(int set) {
    if (!live.hasSet(set)) {
      return tell(BEYOND);
    }
    if (Integer.bitCount(set) != SEATS) {
      return tell(SIZE);
    }
    if (live.sitting() != 0) {
      return tell(STATE);
    }
    ways.find(live, set);
    return ways.bestSeconds;
  }

  public int way(int set, int step) {
    if (!live.hasSet(set) || step < 0 || step >= SEATS) {
      return tell(BEYOND);
    }
    if (Integer.bitCount(set) != SEATS) {
      return tell(SIZE);
    }
    if (live.sitting() != 0) {
      return tell(STATE);
    }
    ways.find(live, set);
    return ways.bestSteps[step];
  }

  public int kind(int child, int seat) {
    if (!live.has(child) || !isSeat(seat)) {
      return tell(BEYOND);
    }
    int best = CHILD;
    int fewest = live.secondsAs(CHILD, child, seat);
    for (int kind = CHILD + 1; kind < KINDS; kind++) {
      int takes = live.secondsAs(kind, child, seat);
      if (takes < fewest) {
        best = kind;
        fewest = takes;
      }
    }
    return best;
  }

  public int bribes(int child, int n) {
    if (!live.has(child) || n < 1 || n > MOST_MINUTES) {
      return tell(BEYOND);
    }
    if (!live.children[child].sits()) {
      return tell(STATE);
    }
    for (int given = 0; given <= MOST_BRIBES; given++) {
      trial.become(live);
      for (int i = 0; i < given; i++) {
        trial.giveBribe(child);
      }
      if (staysInTrial(child, n)) {
        return given;
      }
    }
    return tell(NONE);
  }

  public int coat(int child, int seat) {
    if (!live.has(child) || !isSeat(seat)) {
      return tell(BEYOND);
    }
    trial.become(live);
    trial.children[child].coat = 0;
    return 1000 + live.secondsFor(child, seat) - trial.secondsFor(child, seat) - live.rain;
  }

  public int mood(int child, int n) {
    if (!live.has(child) || n < 1 || n > MOST_MINUTES) {
      return tell(BEYOND);
    }
    if (!live.children[child].sits()) {
      return tell(STATE);
    }
    for (int mood = 0; mood <= MOST_MOOD; mood++) {
      trial.become(live);
      trial.children[child].mood = mood;
      if (staysInTrial(child, n)) {
        return mood;
      }
    }
    return tell(NONE);
  }

  public int worst(int n) {
    if (n < 0 || n > MOST_MINUTES) {
      return tell(BEYOND);
    }
    trial.become(live);
    trial.passMinutes(n);
    int worst = NOBODY;
    int least = MOST_MOOD + 1;
    for (int c = 0; c < live.count; c++) {
      // Who sits is asked of now: one that gets out on the way may still be the worst.
      if (live.children[c].sits() && trial.children[c].mood < least) {
        worst = c;
        least = trial.children[c].mood;
      }
    }
    return worst == NOBODY ? tell(NONE) : worst;
  }

  // ---- the text

  public int feed(int bytes, int n) {
    if (n < 1 || n > 4) {
      return tell(BEYOND);
    }
    if (text.tape.length + n > MOST_BYTES) {
      return tell(FULL);
    }
    for (int i = n - 1; i >= 0; i--) {
      text.tape.add((bytes >>> (8 * i)) & 255);
    }
    return text.tape.length;
  }

  public int wipe() {
    int had = text.tape.length;
    text.tape.length = 0;
    return had;
  }

  public int car() {
    // Items come to the trial first: with a fault nothing of them may stay.
    trial.become(live);
    int items = text.parse(trial);
    text.tape.length = 0;
    if (text.hasFault()) {
      return -1 - text.fault;
    }
    live.become(trial);
    return items;
  }

  // ---- sheets

  public int sheet(int s, int bits, int n) {
    if (!isSheet(s) || !(bits == 0 || bits == 8 || bits == 16 || bits == 64)) {
      return tell(BEYOND);
    }
    if (n < 0) {
      return tell(SIZE);
    }
    if (n > MOST_NUMBERS) {
      return tell(BEYOND);
    }
    sheets[s].make(bits, bits == 0 ? 0 : n);
    return sheets[s].length;
  }

  public long write(int s, int i, long v) {
    if (!isSheet(s)) {
      return tell(BEYOND);
    }
    if (sheets[s].isMissing()) {
      return tell(MISSING);
    }
    if (i < 0 || i >= sheets[s].length) {
      return tell(BEYOND);
    }
    long was = sheets[s].numbers[i];
    sheets[s].put(i, v);
    return was;
  }

  public int copy(int s, int from, int t, int to, int n) {
    if (!isSheet(s) || !isSheet(t)) {
      return tell(BEYOND);
    }
    if (sheets[s].isMissing() || sheets[t].isMissing()) {
      return tell(MISSING);
    }
    if (sheets[s].bits != sheets[t].bits) {
      return tell(KIND);
    }
    if (!sheets[s].holds(from, n) || !sheets[t].holds(to, n)) {
      return tell(BEYOND);
    }
    System.arraycopy(sheets[s].numbers, from, sheets[t].numbers, to, n);
    return n;
  }

  public int lays(int s) {
    if (!isSheet(s)) {
      return tell(BEYOND);
    }
    if (sheets[s].isMissing()) {
      return tell(MISSING);
    }
    int came = 0;
    for (int c = 0; c < live.count && c < sheets[s].length; c++) {
      long mood = sheets[s].numbers[c];
      if (mood >= 0 && mood <= MOST_MOOD) {
        live.children[c].mood = (int) mood;
        came++;
      }
    }
    return came;
  }

  public int book(int s, int child) {
    if (!isSheet(s)) {
      return tell(BEYOND);
    }
    if (sheets[s].isMissing()) {
      return tell(MISSING);
    }
    if (!live.has(child)) {
      return tell(BEYOND);
    }
    trial.become(live);
    for (int i = 0; i < sheets[s].length; i++) {
      sheets[s].put(i, trial.children[child].mood);
      trial.passMinute();
    }
    return sheets[s].length;
  }

  public int read(int s, int child) {
    if (!isSheet(s)) {
      return tell(BEYOND);
    }
    if (sheets[s].isMissing()) {
      return tell(MISSING);
    }
    if (!live.has(child)) {
      return tell(BEYOND);
    }
    int mostTight = live.children[child].sits() ? MOST_TIGHT : 0;
    int pairs = 0;
    for (int kind = 0; kind < KINDS; kind++) {
      for (int tight = 0; tight <= mostTight; tight++) {
        trial.become(live);
        trial.children[child].kind = kind;
        trial.children[child].tight = tight;
        if (trialTells(sheets[s], child)) {
          pairs++;
        }
      }
    }
    return pairs;
  }

  // ---- images

  public int image() {
    kept.become(live);
    somethingKept = true;
    return 1;
  }

  public int undo() {
    if (!somethingKept) {
      return tell(NONE);
    }
    live.become(kept);
    return live.count;
  }

  public int tear() {
    int was = somethingKept ? 1 : 0;
    somethingKept = false;
    return was;
  }

  public int count(int what) {
    switch (what) {
      case 0:
        return live.count;
      case 1:
        return text.tape.length;
      case 2:
        return Integer.bitCount(live.sitting());
      case 3:
        return live.wears();
      default:
        return tell(BEYOND);
    }
  }

  public int status(int which) {
    if (which < -1 || which >= FINDINGS) {
      return tell(BEYOND);
    }
    if (which >= 0) {
      return told[which];
    }
    int sum = 0;
    for (int f = 0; f < FINDINGS; f++) {
      sum += told[f];
    }
    return sum;
  }

  // ---- helpers

  private int tell(int finding) {
    told[finding]++;
    return FIRST_FINDING - finding;
  }

  private boolean staysInTrial(int child, int n) {
    trial.passMinutes(n);
    return trial.children[child].sits();
  }

  private boolean trialTells(Sheet sheet, int child) {
    for (int i = 0; i < sheet.length; i++) {
      if (sheet.numbers[i] != trial.children[child].mood) {
        return false;
      }
      trial.passMinute();
    }
    return true;
  }

  private static boolean isSeat(int seat) {
    return seat >= 0 && seat < SEATS;
  }

  private static boolean isKind(int kind) {
    return kind >= 0 && kind < KINDS;
  }

  private static boolean isSheet(int s) {
    return s >= 0 && s < SHEETS;
  }

  /** What the kinds of children have of their own, and what of the kind above. */
  private static final class Kinds {
    private static final int[] ABOVE = {-1, CHILD, CHILD, CHILD, ARCHER, BIG};

    static boolean isOneOf(int kind, int wanted) {
      int k = kind;
      for (int level = 0; level < KINDS && isKind(k); level++) {
        if (k == wanted) {
          return true;
        }
        k = ABOVE[k];
      }
      return false;
    }

    static int takes(int kind, Child child, Seat seat) {
      int asChild = 10;
      int asArcher = asChild + 3 * child.arch;
      int asBig = asChild / 2;
      switch (kind) {
        case ARCHER:
          return asArcher;
        case BIG:
          return asBig;
        case BABY:
          return seat.turned == 1 ? asChild : asChild + 5;
        case HOWLER:
          return child.mood < 3 ? 2 * asArcher : asArcher;
        case SELF:
          return child.mood >= 7 ? 0 : asBig;
        default:
          return asChild;
      }
    }

    /** Before the coat is taken off it, and before it is held to 0. */
    static int snugs(int kind, Child child, Seat seat) {
      int asChild = 9 - seat.twists;
      int asBig = asChild - child.size / 40;
      switch (kind) {
        case ARCHER:
        case HOWLER:
          return asChild - child.arch / 2;
        case BIG:
          return asBig;
        case BABY:
          return seat.turned == 1 ? asChild : asChild - 4;
        case SELF:
          return asBig - 1;
        default:
          return asChild;
      }
    }

    static int frets(int kind, int minute, int tight, boolean alone) {
      int asChild = minute % 3 == 0 ? 1 : 0;
      int asArcher = tight > 6 ? asChild + 1 : asChild;
      switch (kind) {
        case ARCHER:
          return asArcher;
        case BABY:
          return alone ? asChild + 1 : asChild;
        case HOWLER:
          return 2 * asArcher;
        default:
          return asChild;
      }
    }
  }

  private static final class Seat {
    int twists = 0;
    int crumbs = 0;
    int turned = 0;
    int wear = 0;
    int sitter = NOBODY;

    static int most(int what) {
      switch (what) {
        case 0:
          return MOST_TWISTS;
        case 1:
          return MOST_CRUMBS;
        default:
          return 1;
      }
    }

    boolean isTaken() {
      return sitter != NOBODY;
    }

    int get(int what) {
      switch (what) {
        case 0:
          return twists;
        case 1:
          return crumbs;
        case 2:
          return turned;
        case 3:
          return wear;
        default:
          return sitter;
      }
    }

    void put(int what, int v) {
      switch (what) {
        case 0:
          twists = v;
          break;
        case 1:
          crumbs = v;
          break;
        default:
          turned = v;
          break;
      }
    }

    void become(Seat other) {
      twists = other.twists;
      crumbs = other.crumbs;
      turned = other.turned;
      wear = other.wear;
      sitter = other.sitter;
    }
  }

  private static final class Child {
    int kind = CHILD;
    int size = 0;
    int mood = 0;
    int coat = 0;
    int arch = 0;
    int tight = 0;
    int place = NOWHERE;

    static int most(int what) {
      switch (what) {
        case 1:
          return MOST_SIZE;
        case 2:
          return MOST_MOOD;
        case 3:
          return 1;
        default:
          return MOST_ARCH;
      }
    }

    void begin(int newKind) {
      kind = newKind;
      size = 30;
      mood = 5;
      coat = 0;
      arch = 0;
      tight = 0;
      place = NOWHERE;
    }

    boolean sits() {
      return place != NOWHERE;
    }

    int get(int what) {
      switch (what) {
        case 0:
          return kind;
        case 1:
          return size;
        case 2:
          return mood;
        case 3:
          return coat;
        case 4:
          return arch;
        case 5:
          return tight;
        default:
          return place;
      }
    }

    void put(int what, int v) {
      switch (what) {
        case 1:
          size = v;
          break;
        case 2:
          mood = v;
          break;
        case 3:
          coat = v;
          break;
        default:
          arch = v;
          break;
      }
    }

    void become(Child other) {
      kind = other.kind;
      size = other.size;
      mood = other.mood;
      coat = other.coat;
      arch = other.arch;
      tight = other.tight;
      place = other.place;
    }
  }

  /** All that an image keeps; callers hand in only seats and children that there are. */
  private static final class Car {
    final Seat[] seats = new Seat[SEATS];
    final Child[] children = new Child[MOST_CHILDREN];
    int count = 0;
    int rain = 0;
    int minute = 0;
    int spent = 0;

    Car() {
      for (int s = 0; s < SEATS; s++) {
        seats[s] = new Seat();
      }
      for (int c = 0; c < MOST_CHILDREN; c++) {
        children[c] = new Child();
      }
    }

    void become(Car other) {
      for (int s = 0; s < SEATS; s++) {
        seats[s].become(other.seats[s]);
      }
      for (int c = 0; c < other.count; c++) {
        children[c].become(other.children[c]);
      }
      count = other.count;
      rain = other.rain;
      minute = other.minute;
      spent = other.spent;
    }

    boolean has(int child) {
      return child >= 0 && child < count;
    }

    boolean hasSet(int set) {
      return set >= 0 && set < (1 << count);
    }

    boolean isFull() {
      return count >= MOST_CHILDREN;
    }

    /** The caller has asked isFull(). */
    int add(int kind) {
      children[count].begin(kind);
      count++;
      return count - 1;
    }

    int secondsFor(int child, int seat) {
      return secondsAs(children[child].kind, child, seat);
    }

    int secondsAs(int kind, int child, int seat) {
      Seat there = seats[seat];
      Child one = children[child];
      return Kinds.takes(kind, one, there)
          + 5 * there.twists
          + 2 * there.crumbs
          + 4 * one.coat
          + rain
          + (seat == MIDDLE ? 8 : 3) * takenBeside(seat);
    }

    private int takenBeside(int seat) {
      int taken = 0;
      for (int s = 0; s < SEATS; s++) {
        boolean beside = s == seat - 1 || s == seat + 1;
        if (beside && seats[s].sitter != NOBODY) {
          taken++;
        }
      }
      return taken;
    }

    int snugFor(int child, int seat) {
      Child one = children[child];
      return Math.max(0, Kinds.snugs(one.kind, one, seats[seat]) - 3 * one.coat);
    }

    int fretsNow(Child one) {
      boolean alone = !one.sits() || takenBeside(one.place) == 0;
      return Kinds.frets(one.kind, minute, one.tight, alone);
    }

    /** The caller has asked that the child sits nowhere, and nobody in the seat. */
    void clickIn(int child, int seat) {
      Child one = children[child];
      Seat there = seats[seat];
      spent = Math.min(MOST_SPENT, spent + secondsAs(one.kind, child, seat));
      one.tight = snugFor(child, seat);
      one.place = seat;
      there.sitter = child;
      there.wear = Math.min(MOST_WEAR, there.wear + 1);
      if (Kinds.isOneOf(one.kind, ARCHER)) {
        one.arch = Math.min(MOST_ARCH, one.arch + 1);
      }
    }

    void getOut(int seat) {
      int child = seats[seat].sitter;
      if (has(child)) {
        children[child].tight = 0;
        children[child].place = NOWHERE;
      }
      seats[seat].sitter = NOBODY;
    }

    void giveBribe(int child) {
      Child one = children[child];
      one.mood = Math.min(MOST_MOOD, one.mood + 3);
      if (isSeat(one.place)) {
        Seat there = seats[one.place];
        there.crumbs = Math.min(MOST_CRUMBS, there.crumbs + 1);
      }
    }

    void passMinutes(int n) {
      for (int i = 0; i < n; i++) {
        passMinute();
      }
    }

    void passMinute() {
      // Frets ask for no mood, so that moods may go down one by one.
      for (int s = 0; s < SEATS; s++) {
        if (has(seats[s].sitter)) {
          Child one = children[seats[s].sitter];
          one.mood = Math.max(0, one.mood - fretsNow(one));
        }
      }
      for (int s = 0; s < SEATS; s++) {
        if (has(seats[s].sitter)) {
          loosen(s);
        }
      }
      minute++;
    }

    private void loosen(int seat) {
      Child one = children[seats[seat].sitter];
      if (one.mood >= 2) {
        return;
      }
      one.tight = Math.max(0, one.tight - 1);
      if (one.tight == 0) {
        getOut(seat);
      }
    }

    int sitting() {
      int set = 0;
      for (int s = 0; s < SEATS; s++) {
        if (seats[s].isTaken()) {
          set |= 1 << seats[s].sitter;
        }
      }
      return set;
    }

    int quickestSeat(int child) {
      int best = NOWHERE;
      int fewest = 0;
      for (int s = 0; s < SEATS; s++) {
        int takes = secondsFor(child, s);
        if (!seats[s].isTaken() && (best == NOWHERE || takes < fewest)) {
          best = s;
          fewest = takes;
        }
      }
      return best;
    }

    int snuggestSeat(int child) {
      int best = NOWHERE;
      int most = 0;
      for (int s = 0; s < SEATS; s++) {
        int tight = snugFor(child, s);
        if (!seats[s].isTaken() && (best == NOWHERE || tight > most)) {
          best = s;
          most = tight;
        }
      }
      return best;
    }

    int moods() {
      int sum = 0;
      for (int c = 0; c < count; c++) {
        sum += children[c].mood;
      }
      return sum;
    }

    int tights() {
      int sum = 0;
      for (int c = 0; c < count; c++) {
        sum += children[c].tight;
      }
      return sum;
    }

    int wears() {
      int sum = 0;
      for (int s = 0; s < SEATS; s++) {
        sum += seats[s].wear;
      }
      return sum;
    }
  }

  /** Finds the quickest way in which three children come into the three empty seats. */
  private static final class Ways {
    private static final int NO_WAY_YET = -1;

    private final Car trial = new Car();
    private final int[] three = new int[SEATS];
    private final int[] steps = new int[SEATS];
    final int[] bestSteps = new int[SEATS];
    int bestSeconds = NO_WAY_YET;

    /** Ways come with the least child first, in the least seat, so the first of equals is kept. */
    void find(Car car, int set) {
      listThree(set);
      bestSeconds = NO_WAY_YET;
      for (int child = 0; child < SEATS; child++) {
        for (int seat = 0; seat < SEATS; seat++) {
          findFrom(car, child, seat);
        }
      }
    }

    private void listThree(int set) {
      int found = 0;
      for (int c = 0; c < MOST_CHILDREN && found < SEATS; c++) {
        if ((set & (1 << c)) != 0) {
          three[found] = c;
          found++;
        }
      }
    }

    private void findFrom(Car car, int firstChild, int firstSeat) {
      for (int child = 0; child < SEATS; child++) {
        for (int seat = 0; seat < SEATS; seat++) {
          if (child != firstChild && seat != firstSeat) {
            trial.become(car);
            int takes = takeStep(0, firstChild, firstSeat);
            takes += takeStep(1, child, seat);
            // The numbers 0, 1, 2 come to 3, which leaves the last child and seat.
            takes += takeStep(2, 3 - firstChild - child, 3 - firstSeat - seat);
            keepIfBetter(takes);
          }
        }
      }
    }

    private int takeStep(int step, int which, int seat) {
      int child = three[which];
      int takes = trial.secondsFor(child, seat);
      trial.clickIn(child, seat);
      steps[step] = 10 * child + seat;
      return takes;
    }

    private void keepIfBetter(int takes) {
      if (bestSeconds == NO_WAY_YET || takes < bestSeconds) {
        bestSeconds = takes;
        System.arraycopy(steps, 0, bestSteps, 0, SEATS);
      }
    }
  }

  /** The bytes that were fed, read token by token. */
  private static final class Tape {
    static final int END = 0;
    static final int WORD = 1;
    static final int NUMBER = 2;
    static final int SIGN = 3;
    static final int OTHER = 4;
    private static final int MOST_NUMBER = 999;

    private final int[] bytes = new int[MOST_BYTES];
    int length = 0;
    int token = END;
    int start = 0;
    private int end = 0;
    private int value = 0;

    void add(int b) {
      if (length < MOST_BYTES) {
        bytes[length] = b;
        length++;
      }
    }

    void first() {
      end = 0;
      next();
    }

    void next() {
      start = end;
      for (int i = 0; i < MOST_BYTES && byteAt(start) == ' '; i++) {
        start++;
      }
      token = tokenWith(byteAt(start));
      end = token == END ? start : start + 1;
      value = token == NUMBER ? byteAt(start) - '0' : 0;
      boolean goesOn = token == WORD || token == NUMBER;
      for (int i = 0; i < MOST_BYTES && goesOn && tokenWith(byteAt(end)) == token; i++) {
        // One above the most is enough to refuse it, and long rows of digits can't wrap.
        value = token == NUMBER ? Math.min(MOST_NUMBER + 1, 10 * value + byteAt(end) - '0') : 0;
        end++;
      }
    }

    private static int tokenWith(int b) {
      if (b < 0) {
        return END;
      }
      if (b >= 'a' && b <= 'z') {
        return WORD;
      }
      if (b >= '0' && b <= '9') {
        return NUMBER;
      }
      return b == ';' ? SIGN : OTHER;
    }

    /** -1 where the tape has ended. */
    private int byteAt(int i) {
      return i >= 0 && i < length && i < MOST_BYTES ? bytes[i] : -1;
    }

    boolean isWord(String word) {
      if (token != WORD || end - start != word.length()) {
        return false;
      }
      for (int i = 0; i < word.length(); i++) {
        if (byteAt(start + i) != word.charAt(i)) {
          return false;
        }
      }
      return true;
    }

    /** The number that stands here, or -1 if none does that is at most so much. */
    int numberUpTo(int most) {
      return token == NUMBER && value <= most ? value : -1;
    }
  }

  /** The text of a car: its items come to a car, up to the first fault. */
  private static final class CarText {
    private static final int NO_FAULT = -1;

    final Tape tape = new Tape();
    int fault = NO_FAULT;

    boolean hasFault() {
      return fault != NO_FAULT;
    }

    /** How many items there are; with a fault the car is left half told. */
    int parse(Car car) {
      fault = NO_FAULT;
      tape.first();
      for (int items = 1; items <= MOST_BYTES; items++) {
        parseItem(car);
        if (hasFault() || tape.token == Tape.END) {
          return items;
        }
        if (tape.token != Tape.SIGN) {
          fault = tape.start;
          return items;
        }
        tape.next();
      }
      return MOST_BYTES;
    }

    private void parseItem(Car car) {
      int kind = kindNamed();
      if (isKind(kind)) {
        parseChild(car, kind);
      } else if (tape.isWord("seat")) {
        parseSeat(car);
      } else if (tape.isWord("rain")) {
        car.rain = numberBehind(MOST_RAIN);
      } else {
        fault = tape.start;
      }
    }

    private void parseChild(Car car, int kind) {
      if (car.isFull()) {
        fault = tape.start;
        return;
      }
      Child one = car.children[car.add(kind)];
      tape.next();
      if (tape.isWord("size")) {
        one.size = numberBehind(MOST_SIZE);
      }
      if (!hasFault() && tape.isWord("mood")) {
        one.mood = numberBehind(MOST_MOOD);
      }
      if (!hasFault() && tape.isWord("coat")) {
        one.coat = 1;
        tape.next();
      }
    }

    private void parseSeat(Car car) {
      int seat = numberBehind(SEATS - 1);
      if (hasFault() || !isSeat(seat)) {
        return;
      }
      Seat there = car.seats[seat];
      there.turned = 0;
      if (tape.isWord("twists")) {
        there.twists = numberBehind(MOST_TWISTS);
      }
      if (!hasFault() && tape.isWord("crumbs")) {
        there.crumbs = numberBehind(MOST_CRUMBS);
      }
      if (!hasFault() && tape.isWord("turned")) {
        there.turned = 1;
        tape.next();
      }
    }

    /** The number behind the word that stands here; the token behind it comes next. */
    private int numberBehind(int most) {
      tape.next();
      int number = tape.numberUpTo(most);
      if (number < 0) {
        fault = tape.start;
        return 0;
      }
      tape.next();
      return number;
    }

    private int kindNamed() {
      for (int kind = 0; kind < KINDS; kind++) {
        if (tape.isWord(nameOf(kind))) {
          return kind;
        }
      }
      return -1;
    }

    private static String nameOf(int kind) {
      switch (kind) {
        case ARCHER:
          return "archer";
        case BIG:
          return "big";
        case BABY:
          return "baby";
        case HOWLER:
          return "howler";
        case SELF:
          return "self";
        default:
          return "child";
      }
    }
  }

  private static final class Sheet {
    final long[] numbers = new long[MOST_NUMBERS];
    int bits = 0;
    int length = 0;

    boolean isMissing() {
      return bits == 0;
    }

    void make(int newBits, int n) {
      bits = newBits;
      length = n;
      for (int i = 0; i < MOST_NUMBERS; i++) {
        numbers[i] = 0;
      }
    }

    boolean holds(int from, int n) {
      return from >= 0 && n >= 0 && n <= length && from <= length - n;
    }

    void put(int i, long v) {
      if (bits == 8) {
        numbers[i] = (byte) v;
      } else if (bits == 16) {
        numbers[i] = (short) v;
      } else {
        numbers[i] = v;
      }
    }
  }
}
