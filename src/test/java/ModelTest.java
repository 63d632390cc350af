import java.util.Random;

/** Runs of at most 512 calls on one object, each answer against that of the model. */
public final class ModelTest {
  private static final int MOST_CALLS = 512;
  private static final long GIVEN = 1000000000L;

  private final int n;
  private final Random random;
  private final LinearRows rows;
  private final Model model;
  private final StringBuilder told = new StringBuilder();
  private final int mostShape;
  private final long mostC;
  private int mostSource;
  private int calls = 0;

  private ModelTest(int n, int mostShape, long mostC, long seed) {
    this.n = n;
    this.mostShape = mostShape;
    mostSource = mostShape;
    this.mostC = mostC;
    random = new Random(seed);
    rows = new LinearRows(n);
    model = new Model(n);
  }

  public static void main(String[] args) {
    long seed = 1;
    for (int n = 1; n <= 5; n++) {
      int runs = n < 4 ? 60 : 8;
      for (int run = 0; run < runs; run++) {
        new ModelTest(n, 2, 5, seed++).go(MOST_CALLS);
        new ModelTest(n, 7, 40, seed++).go(MOST_CALLS);
        new ModelTest(n, 3, GIVEN, seed++).go(MOST_CALLS);
        if (n >= 3) {
          new ModelTest(n, 3, GIVEN, seed++).goFar();
        }
      }
    }
    Checks.end();
  }

  private void go(int most) {
    while (calls < most && !Checks.anyWrong()) {
      if (random.nextInt(3) == 0) {
        change();
      } else {
        look();
      }
    }
  }

  /** Near 10^15 by doubling, left in shapes that no later call changes, then any calls. */
  private void goFar() {
    if (random.nextBoolean()) {
      set(0, 1, 2, random.nextBoolean() ? GIVEN : -GIVEN);
    } else {
      row(0, 1, -2, random.nextBoolean() ? GIVEN : -GIVEN);
    }
    int rounds = 17 + random.nextInt(3);
    for (int k = 0; k < rounds; k++) {
      moveToNextNames(1, 0);
      meet(0, 0, 1);
      set(0, 2, 3, random.nextInt(3));
      forget(0, 3);
    }
    copy(7, 0);
    moveToNextNames(6, 0);
    copy(5, 0);
    set(5, 1, -1, given());
    copy(4, 0);
    row(4, 2, 0, 0);
    row(4, -2, 0, random.nextInt(5));
    all(0);
    all(1);
    mostSource = 7;
    go(MOST_CALLS);
  }

  private void moveToNextNames(int t, int s) {
    copy(t, s);
    set(t, 3, 2, 0);
    set(t, 2, 1, random.nextInt(3));
    forget(t, 1);
  }

  private void same(String call, Checks.Call got, Checks.Call want) {
    calls++;
    told.append(' ').append(call);
    String a = Checks.told(got);
    String b = Checks.told(want);
    if (!a.equals(b)) {
      Checks.report("n " + n + ":" + told + " answered " + a + ", due is " + b);
    }
  }

  private int shape() {
    return random.nextInt(150) == 0 ? random.nextInt(20) - 10 : random.nextInt(mostShape + 1);
  }

  private int source() {
    return random.nextInt(150) == 0 ? random.nextInt(20) - 10 : random.nextInt(mostSource + 1);
  }

  private int name() {
    return random.nextInt(150) == 0 ? random.nextInt(20) - 10 : random.nextInt(n) + 1;
  }

  private int term() {
    return random.nextInt(150) == 0 ? random.nextInt(20) - 10 : random.nextInt(2 * n + 1) - n;
  }

  private long given() {
    if (random.nextInt(100) == 0) {
      return (random.nextBoolean() ? 1 : -1) * (GIVEN + random.nextInt(2));
    }
    long c = (long) (random.nextDouble() * (2 * mostC + 1)) - mostC;
    return random.nextInt(3) == 0 ? c : Math.abs(c);
  }

  private void copy(int t, int s) {
    same("copy(" + t + ", " + s + ")",
        () -> {
          rows.copy(t, s);
          return 0;
        },
        () -> {
          model.copy(t, s);
          return 0;
        });
  }

  private void set(int s, int x, int a, long c) {
    same("set(" + s + ", " + x + ", " + a + ", " + c + ")", () -> rows.set(s, x, a, c), () -> model.set(s, x, a, c));
  }

  private void forget(int s, int x) {
    same("forget(" + s + ", " + x + ")", () -> rows.forget(s, x), () -> model.forget(s, x));
  }

  private void meet(int t, int s, int u) {
    same("meet(" + t + ", " + s + ", " + u + ")", () -> rows.meet(t, s, u), () -> model.meet(t, s, u));
  }

  private void all(int s) {
    same("all(" + s + ")",
        () -> {
          rows.all(s);
          return 0;
        },
        () -> {
          model.all(s);
          return 0;
        });
  }

  private void change() {
    int t = shape();
    int s = source();
    int u = source();
    String three = "(" + t + ", " + s + ", " + u + ")";
    switch (random.nextInt(16)) {
      case 0 -> meet(t, s, u);
      case 1 -> same("join" + three, () -> rows.join(t, s, u), () -> model.join(t, s, u));
      case 2, 3 -> same("widen" + three, () -> rows.widen(t, s, u), () -> model.widen(t, s, u));
      case 4, 5, 6 -> same("narrow" + three, () -> rows.narrow(t, s, u), () -> model.narrow(t, s, u));
      case 7 -> copy(t, s);
      case 8, 9 -> set(t, name(), term(), given());
      case 10 -> forget(t, name());
      case 11 -> {
        if (random.nextInt(3) == 0 || model.told(9) > 1) {
          all(t);
        }
      }
      default -> {
        int a = term();
        int b = term();
        row(t, a, b, a == -b && random.nextInt(10) != 0 ? mostC : given());
      }
    }
  }

  private void row(int s, int a, int b, long c) {
    same("row(" + s + ", " + a + ", " + b + ", " + c + ")", () -> rows.row(s, a, b, c), () -> model.row(s, a, b, c));
  }

  private void look() {
    int s = source();
    int a = term();
    int b = term();
    String two = "(" + s + ", " + a + ", " + b + ")";
    switch (random.nextInt(n < 4 ? 20 : 40)) {
      case 0 -> needed(s);
      case 1 -> {
        int k = random.nextInt(12) - 1;
        int what = random.nextInt(5) - 1;
        same("needs(" + k + ", " + what + ")", () -> rows.needs(k, what), () -> model.needs(k, what));
      }
      case 2 -> sample(s);
      case 3, 4 -> same("has(" + s + ")", () -> rows.has(s) ? 1 : 0, () -> model.has(s) ? 1 : 0);
      case 5 -> {
        int bits = random.nextInt(66) - 1;
        same("fits(" + s + ", " + a + ", " + bits + ")",
            () -> rows.fits(s, a, bits) ? 1 : 0, () -> model.fits(s, a, bits) ? 1 : 0);
      }
      case 6 -> {
        int i = name();
        int l = name();
        same("array(" + s + ", " + i + ", " + l + ")", () -> rows.array(s, i, l), () -> model.array(s, i, l));
      }
      case 7 -> {
        int what = random.nextInt(12) - 1;
        same("told(" + what + ")", () -> rows.told(what), () -> model.told(what));
      }
      case 8 -> {
        int u = source();
        same("within(" + s + ", " + u + ")", () -> rows.within(s, u) ? 1 : 0, () -> model.within(s, u) ? 1 : 0);
      }
      case 9 -> {
        int x = name();
        long v = given();
        same("put(" + x + ", " + v + ")", () -> rows.put(x, v), () -> model.put(x, v));
      }
      case 10, 11, 12, 13 -> same("kept" + two, () -> rows.kept(s, a, b), () -> model.kept(s, a, b));
      default -> same("bound" + two, () -> rows.bound(s, a, b), () -> model.bound(s, a, b));
    }
  }

  private void needed(int s) {
    same("needed(" + s + ")", () -> rows.needed(s), () -> model.needed(s));
    int most = Math.min(3 * model.neededCount(), MOST_CALLS - calls);
    for (int k = 0; k < most; k++) {
      int at = k / 3;
      int what = k % 3;
      same("needs(" + at + ", " + what + ")", () -> rows.needs(at, what), () -> model.needs(at, what));
    }
  }

  private void sample(int s) {
    same("sample(" + s + ")", () -> rows.sample(s) ? 1 : 0, () -> model.sample(s) ? 1 : 0);
    for (int k = 1; k <= n && calls < MOST_CALLS; k++) {
      int name = k;
      same("point(" + name + ")", () -> rows.point(name), () -> model.point(name));
    }
  }
}
