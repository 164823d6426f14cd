/** One method a promise: ordinary inputs, the edges that the document names, and wrong inputs. */
public final class PromisesTest {
  private static final int BAD = OddsSampling.BAD;
  private static final int NO = OddsSampling.NO;
  private static final int FULL = OddsSampling.FULL;
  private static final int[] NO_QUESTIONS = {
    -1, Integer.MIN_VALUE, Integer.MAX_VALUE, 1 << 26, (1 << 26) + 1, 40, 64
  };

  private static int wrong = 0;
  private static int promise = 0;
  private static int row = 0;

  private static void due(long got, long want) {
    row++;
    if (got != want) {
      wrong++;
      System.out.println("promise " + promise + ", answer " + row + ": " + got
          + ", due is " + want);
    }
  }

  private static void dueReal(double got, double want) {
    row++;
    if (got != want) {
      wrong++;
      System.out.println("promise " + promise + ", answer " + row + ": " + got
          + ", due is " + want);
    }
  }

  private static void dueGiven(OddsSampling x, int a, int b, long want) {
    try {
      due(x.given(a, b), want);
    } catch (ArithmeticException e) {
      System.out.println("promise " + promise + ": given(" + a + ", " + b + ") throws");
      wrong++;
    }
  }

  private static void dueGivenThrows(OddsSampling x, int a, int b) {
    boolean thrown = false;
    try {
      x.given(a, b);
    } catch (ArithmeticException e) {
      thrown = true;
    }
    due(thrown ? 1 : 0, 1);
  }

  private static void duePair(long upper, long lower, long wantUpper, long wantLower) {
    due(upper, wantUpper);
    due(lower, wantLower);
  }

  private static void dueChance(OddsSampling x, int question, long upper, long lower) {
    duePair(x.chance(question, 0), x.chance(question, 1), upper, lower);
  }

  private static void dueInfluence(OddsSampling x, int question, int fact, long up, long low) {
    duePair(x.influence(question, fact, 0), x.influence(question, fact, 1), up, low);
  }

  /** Facts 1/2, 2/3, 3/4. */
  private static OddsSampling threeFacts() {
    OddsSampling x = new OddsSampling();
    x.fact(1, 2);
    x.fact(2, 3);
    x.fact(3, 4);
    return x;
  }

  /** Twelve facts of 1/2. */
  private static OddsSampling twelveFacts() {
    OddsSampling x = new OddsSampling();
    for (int i = 0; i < 12; i++) {
      x.fact(1, 2);
    }
    return x;
  }

  private static void fill(OddsSampling x) {
    while (x.questions() < 40) {
      x.set(0, 0);
    }
  }

  private static void start(int number) {
    promise = number;
    row = 0;
  }

  private static void newObject() {
    start(1);
    OddsSampling x = new OddsSampling();
    due(x.questions(), 0);
    due(x.seed(), 0);
    due(x.odds(0, 1, 2), BAD);
    due(x.holds(0, 0), BAD);
    due(x.set(1, 0), BAD);
    due(x.some(1, 0, 1), BAD);
    due(x.set(0, 0), 0);
    due(x.fact(1, 2), 0);
    // Two objects have nothing in common.
    OddsSampling y = new OddsSampling();
    due(y.questions(), 0);
    due(y.fact(1, 3), 0);
    y.set(1, 0);
    x.set(1, 0);
    dueChance(y, 0, 1, 3);
    dueChance(x, 1, 1, 2);
  }

  private static void fact() {
    start(2);
    OddsSampling x = new OddsSampling();
    int[][] none = {
      {0, 0}, {1, 0}, {-1, 2}, {3, 2}, {1, 9}, {9, 9}, {0, -1}, {-1, -1},
      {Integer.MIN_VALUE, 8}, {1, Integer.MIN_VALUE}, {Integer.MAX_VALUE, Integer.MAX_VALUE}
    };
    for (int[] odds : none) {
      due(x.fact(odds[0], odds[1]), BAD);
    }
    due(x.fact(0, 1), 0);
    due(x.fact(1, 1), 1);
    due(x.fact(8, 8), 2);
    due(x.fact(0, 8), 3);
    for (int i = 4; i < 12; i++) {
      due(x.fact(1, 2), i);
    }
    due(x.fact(1, 2), FULL);
    due(x.fact(0, 1), FULL);
    due(x.fact(2, 1), BAD);
    due(x.odds(11, 1, 2), 1);
    due(x.odds(12, 1, 2), BAD);
    factsThatComeLater();
  }

  private static void factsThatComeLater() {
    OddsSampling x = new OddsSampling();
    x.fact(1, 2);
    int first = x.set(1, 0);
    int denied = x.join(3, first, 0);
    int none = x.some(1, 0, 0);
    for (int i = 1; i < 12; i++) {
      x.fact(1, 3);
      dueChance(x, first, 1, 2);
      dueChance(x, denied, 1, 2);
      due(x.worlds(first), 1L << i);
      due(x.worlds(none), 1L << i);
      due(x.hangs(denied), 1);
      due(x.holds(first, 1 | (1 << i)), 1);
      due(x.holds(none, 1 << i), 1);
    }
    due(x.same(none, denied), 1);
  }

  private static void odds() {
    start(3);
    OddsSampling x = threeFacts();
    int q = x.set(1, 0);
    int both = x.set(3, 0);
    dueChance(x, both, 1, 3);
    due(x.odds(0, 1, 8), 1);
    dueChance(x, q, 1, 8);
    dueChance(x, both, 1, 12);
    due(x.odds(0, 0, 1), 1);
    dueChance(x, q, 0, 1);
    due(x.odds(0, 8, 8), 1);
    dueChance(x, q, 1, 1);
    due(x.odds(0, 3, 2), BAD);
    due(x.odds(0, -1, 2), BAD);
    due(x.odds(0, 1, 0), BAD);
    due(x.odds(0, 1, 9), BAD);
    due(x.odds(-1, 1, 2), BAD);
    due(x.odds(3, 1, 2), BAD);
    due(x.odds(12, 1, 2), BAD);
    due(x.odds(Integer.MAX_VALUE, 1, 2), BAD);
    due(x.odds(Integer.MIN_VALUE, 1, 2), BAD);
    dueChance(x, q, 1, 1);
    dueChance(x, both, 2, 3);
    // A fact that was no fact when its odds were asked for comes with its own.
    due(x.fact(1, 5), 3);
    dueChance(x, x.set(8, 0), 1, 5);
  }

  private static void set() {
    start(4);
    OddsSampling x = threeFacts();
    int q = x.set(1, 4);
    due(q, 0);
    for (int world = 0; world < 8; world++) {
      due(x.holds(q, world), world == 1 || world == 3 ? 1 : 0);
    }
    due(x.set(0, 0), 1);
    due(x.worlds(1), 8);
    due(x.set(2, 2), 2);
    due(x.worlds(2), 0);
    due(x.set(7, 0), 3);
    due(x.set(0, 7), 4);
    due(x.set(8, 0), BAD);
    due(x.set(0, 8), BAD);
    due(x.set(-1, 0), BAD);
    due(x.set(0, -1), BAD);
    due(x.set(Integer.MIN_VALUE, 0), BAD);
    due(x.set(0, Integer.MIN_VALUE), BAD);
    due(x.questions(), 5);
    fill(x);
    due(x.set(1, 0), FULL);
    due(x.set(8, 0), BAD);
    due(x.questions(), 40);
    OddsSampling y = twelveFacts();
    due(y.set(4095, 0), 0);
    due(y.holds(0, 4095), 1);
    due(y.holds(0, 2047), 0);
    due(y.worlds(0), 1);
    due(y.set(4096, 0), BAD);
  }

  private static void join() {
    start(5);
    OddsSampling x = threeFacts();
    int a = x.set(1, 0);
    int b = x.set(2, 0);
    int[] wanted = {0b1000, 0b1110, 0b0110, 0b0101};
    for (int op = 0; op < 4; op++) {
      int q = x.join(op, a, b);
      due(q, 2 + op);
      for (int world = 0; world < 8; world++) {
        due(x.holds(q, world), (wanted[op] >> (world & 3)) & 1);
      }
    }
    due(x.join(-1, a, b), BAD);
    due(x.join(4, a, b), BAD);
    due(x.join(Integer.MAX_VALUE, a, b), BAD);
    due(x.join(Integer.MIN_VALUE, a, b), BAD);
    int next = 6;
    for (int none : NO_QUESTIONS) {
      for (int op = 0; op < 3; op++) {
        due(x.join(op, a, none), BAD);
        due(x.join(op, none, b), BAD);
      }
      due(x.join(3, none, b), BAD);
      due(x.join(3, a, none), next++);
      due(x.same(5, next - 1), 1);
    }
    due(x.join(0, a, next), BAD);
    due(x.join(3, next, a), BAD);
    due(x.join(2, a, a), next);
    due(x.worlds(next), 0);
    fill(x);
    for (int op = 0; op < 4; op++) {
      due(x.join(op, a, b), FULL);
      due(x.join(op, 40, b), BAD);
    }
    due(x.join(0, a, 40), BAD);
    due(x.join(3, a, 40), FULL);
    due(x.join(4, a, b), BAD);
  }

  private static void some() {
    start(6);
    OddsSampling x = threeFacts();
    int q = x.some(5, 1, 1);
    for (int world = 0; world < 8; world++) {
      due(x.holds(q, world), Integer.bitCount(world & 5) == 1 ? 1 : 0);
    }
    due(x.worlds(x.some(7, 2, 3)), 4);
    due(x.worlds(x.some(7, 0, 3)), 8);
    due(x.worlds(x.some(7, 2, 1)), 0);
    due(x.worlds(x.some(7, 4, 9)), 0);
    due(x.worlds(x.some(7, Integer.MIN_VALUE, Integer.MAX_VALUE)), 8);
    due(x.worlds(x.some(7, -5, 0)), 1);
    due(x.worlds(x.some(7, -5, -1)), 0);
    due(x.worlds(x.some(7, Integer.MAX_VALUE, Integer.MIN_VALUE)), 0);
    due(x.worlds(x.some(0, 0, 0)), 8);
    due(x.worlds(x.some(0, 1, 3)), 0);
    due(x.some(8, 0, 1), BAD);
    due(x.some(-1, 0, 1), BAD);
    due(x.some(Integer.MIN_VALUE, 0, 1), BAD);
    due(x.questions(), 11);
    fill(x);
    due(x.some(7, 0, 1), FULL);
    due(x.some(8, 0, 1), BAD);
    OddsSampling y = twelveFacts();
    due(y.worlds(y.some(4095, 6, 6)), 924);
    due(y.worlds(y.some(4095, 12, 12)), 1);
  }

  private static void holds() {
    start(7);
    OddsSampling x = threeFacts();
    int q = x.set(4, 1);
    due(x.holds(q, 4), 1);
    due(x.holds(q, 6), 1);
    due(x.holds(q, 5), 0);
    due(x.holds(q, 0), 0);
    due(x.holds(q, 4 | 8 | 4096), 1);
    due(x.holds(q, -1), 0);
    due(x.holds(q, -2), 1);
    due(x.holds(q, Integer.MIN_VALUE), 0);
    due(x.holds(q, Integer.MIN_VALUE | 4), 1);
    due(x.holds(q + 1, 4), BAD);
    for (int none : NO_QUESTIONS) {
      due(x.holds(none, 4), BAD);
    }
  }

  private static void chance() {
    start(8);
    OddsSampling x = threeFacts();
    dueChance(x, x.set(7, 0), 1, 4);
    dueChance(x, x.set(0, 7), 1, 24);
    dueChance(x, x.some(7, 2, 2), 11, 24);
    dueChance(x, x.set(1, 1), 0, 1);
    dueChance(x, x.set(0, 0), 1, 1);
    due(x.chance(0, 2), BAD);
    due(x.chance(0, -1), BAD);
    due(x.chance(0, Integer.MIN_VALUE), BAD);
    due(x.chance(5, 0), BAD);
    for (int none : NO_QUESTIONS) {
      due(x.chance(none, 0), BAD);
      due(x.chance(none, 1), BAD);
    }
    OddsSampling y = new OddsSampling();
    for (int i = 0; i < 12; i++) {
      y.fact(1, 8);
    }
    dueChance(y, y.set(4095, 0), 1, 1L << 36);
    dueChance(y, y.set(0, 4095), 13841287201L, 1L << 36);
    dueChance(y, y.some(4095, 1, 12), (1L << 36) - 13841287201L, 1L << 36);
  }

  private static void real() {
    start(9);
    OddsSampling x = threeFacts();
    dueReal(x.real(0), -1.0);
    dueReal(x.real(x.set(2, 0)), 2.0 / 3.0);
    dueReal(x.real(x.some(7, 2, 2)), 11.0 / 24.0);
    dueReal(x.real(x.set(1, 1)), 0.0);
    dueReal(x.real(x.set(0, 0)), 1.0);
    for (int none : NO_QUESTIONS) {
      dueReal(x.real(none), -1.0);
    }
  }

  private static void given() {
    start(10);
    OddsSampling x = threeFacts();
    int first = x.set(1, 0);
    int second = x.set(2, 0);
    int two = x.some(7, 2, 2);
    int never = x.set(1, 1);
    dueGiven(x, second, first, 666666);
    dueGiven(x, first, two, 454545);
    dueGiven(x, first, first, 1000000);
    dueGiven(x, never, first, 0);
    dueGivenThrows(x, first, never);
    dueGivenThrows(x, never, never);
    x.odds(0, 0, 5);
    dueGivenThrows(x, second, first);
    dueGiven(x, first, second, 0);
    for (int none : NO_QUESTIONS) {
      dueGiven(x, none, second, 0);
      dueGiven(x, second, none, 0);
      dueGiven(x, none, never, 0);
      dueGiven(x, none, none, 0);
    }
    // The million times the greatest sum is beyond an int and still within a long.
    OddsSampling y = new OddsSampling();
    for (int i = 0; i < 12; i++) {
      y.fact(7, 8);
    }
    int all = y.set(0, 0);
    int upper = y.set(4095, 0);
    dueGiven(y, all, all, 1000000);
    dueGiven(y, upper, all, 201417);
  }

  private static void influence() {
    start(11);
    OddsSampling x = threeFacts();
    int both = x.set(3, 0);
    int neither = x.set(0, 3);
    int one = x.some(3, 1, 1);
    dueInfluence(x, both, 0, 2, 3);
    dueInfluence(x, both, 1, 1, 2);
    dueInfluence(x, both, 2, 0, 1);
    dueInfluence(x, neither, 0, -1, 3);
    dueInfluence(x, neither, 1, -1, 2);
    dueInfluence(x, one, 0, -1, 3);
    dueInfluence(x, one, 1, 0, 1);
    // The fact's own odds do not count, not even when they are sure; and they stay as they are.
    x.odds(0, 0, 7);
    dueInfluence(x, both, 0, 2, 3);
    dueInfluence(x, both, 1, 0, 1);
    x.odds(0, 7, 7);
    dueInfluence(x, both, 0, 2, 3);
    dueInfluence(x, both, 1, 1, 1);
    dueChance(x, both, 2, 3);
    due(x.influence(both, 0, 2), 0);
    due(x.influence(both, 0, -1), 0);
    due(x.influence(both, 3, 1), 0);
    due(x.influence(both, -1, 1), 0);
    due(x.influence(both, 12, 1), 0);
    due(x.influence(both, Integer.MAX_VALUE, 1), 0);
    due(x.influence(both, Integer.MIN_VALUE, 1), 0);
    due(x.influence(3, 0, 1), 0);
    for (int none : NO_QUESTIONS) {
      due(x.influence(none, 0, 1), 0);
    }
    OddsSampling y = twelveFacts();
    int all = y.set(4095, 0);
    for (int i = 0; i < 12; i++) {
      dueInfluence(y, all, i, 1, 2048);
    }
  }

  private static void hangs() {
    start(12);
    OddsSampling x = twelveFacts();
    for (int i = 0; i < 12; i++) {
      due(x.hangs(x.set(1 << i, 0)), 1 << i);
      due(x.hangs(x.set(0, 4095 & ~(1 << i))), 4095 & ~(1 << i));
    }
    due(x.hangs(x.some(4095, 0, 12)), 0);
    due(x.hangs(x.some(4095, 0, 0)), 4095);
    due(x.hangs(x.set(0, 0)), 0);
    due(x.hangs(x.set(9, 1)), 0);
    // (fact 0) or (not fact 0 and fact 5) hangs on both; (0 and 5) or (not 0 and 5) on 5 alone.
    int with = x.set(33, 0);
    int without = x.set(32, 1);
    due(x.hangs(x.join(1, x.set(1, 0), without)), 33);
    due(x.hangs(x.join(1, with, without)), 32);
    // Weights do not matter.
    x.odds(0, 0, 1);
    x.odds(5, 1, 1);
    due(x.hangs(with), 33);
    for (int none : NO_QUESTIONS) {
      due(x.hangs(none), BAD);
    }
    due(x.hangs(x.questions()), BAD);
  }

  private static void likeliest() {
    start(13);
    OddsSampling x = threeFacts();
    int any = x.set(0, 0);
    int one = x.some(7, 1, 1);
    int never = x.set(1, 1);
    due(x.likeliest(any), 6);
    due(x.likeliest(one), 4);
    due(x.likeliest(never), NO);
    due(x.likeliest(x.set(1, 4)), 3);
    due(x.likeliest(x.set(0, 6)), 0);
    // Weights of 0 are weights.
    x.odds(2, 1, 1);
    due(x.likeliest(x.set(0, 4)), 0);
    due(x.likeliest(x.set(1, 4)), 1);
    x.odds(0, 0, 1);
    due(x.likeliest(any), 6);
    due(x.likeliest(x.set(2, 4)), 2);
    for (int none : NO_QUESTIONS) {
      due(x.likeliest(none), BAD);
    }
    due(x.likeliest(x.questions()), BAD);
    OddsSampling y = twelveFacts();
    due(y.likeliest(y.some(4095, 11, 11)), 2047);
    due(y.likeliest(y.set(4095, 0)), 4095);
    y.odds(11, 5, 8);
    due(y.likeliest(y.some(4095, 11, 11)), 0b101111111111);
    y.odds(0, 1, 1);
    due(y.likeliest(y.set(0, 1)), 0);
  }

  private static void weight() {
    start(14);
    OddsSampling x = threeFacts();
    int any = x.set(0, 0);
    int never = x.set(1, 1);
    due(x.weight(any), 6);
    due(x.weight(x.some(7, 1, 1)), 3);
    due(x.weight(x.set(0, 7)), 1);
    due(x.weight(never), 0);
    x.odds(2, 1, 1);
    due(x.weight(x.set(0, 4)), 0);
    for (int none : NO_QUESTIONS) {
      due(x.weight(none), 0);
    }
    OddsSampling y = new OddsSampling();
    int one = y.set(0, 0);
    due(y.weight(one), 1);
    for (int i = 0; i < 12; i++) {
      y.fact(8, 8);
    }
    due(y.weight(one), 1L << 36);
  }

  private static void worlds() {
    start(15);
    OddsSampling x = threeFacts();
    int one = x.some(7, 1, 1);
    int any = x.set(0, 0);
    due(x.worlds(one), 3);
    due(x.worlds(any), 8);
    due(x.worlds(x.set(1, 1)), 0);
    x.odds(0, 0, 3);
    due(x.worlds(one), 3);
    x.fact(1, 2);
    due(x.worlds(one), 6);
    due(x.worlds(any), 16);
    for (int none : NO_QUESTIONS) {
      due(x.worlds(none), BAD);
    }
    due(x.worlds(3), BAD);
    OddsSampling y = new OddsSampling();
    due(y.worlds(y.set(0, 0)), 1);
    due(y.worlds(y.some(0, 1, 1)), 0);
    OddsSampling z = twelveFacts();
    due(z.worlds(z.set(0, 0)), 4096);
  }

  private static void same() {
    start(16);
    OddsSampling x = threeFacts();
    int both = x.set(3, 0);
    int two = x.some(3, 2, 2);
    int first = x.set(1, 0);
    due(x.same(both, two), 1);
    due(x.same(two, both), 1);
    due(x.same(both, both), 1);
    due(x.same(both, first), 0);
    // Equal odds are not the same worlds, nor are worlds that differ by a weight of 0 alone.
    x.odds(1, 1, 1);
    due(x.same(both, first), 0);
    due(x.same(first, both), 0);
    for (int none : NO_QUESTIONS) {
      due(x.same(none, both), BAD);
      due(x.same(both, none), BAD);
      due(x.same(none, none), BAD);
    }
    due(x.same(both, 3), BAD);
    OddsSampling y = twelveFacts();
    // One world makes the difference: the last one, the first one.
    int never = y.set(1, 1);
    due(y.same(never, y.set(4095, 0)), 0);
    due(y.same(never, y.set(0, 4095)), 0);
    due(y.same(y.set(0, 4095), y.some(4095, -1, 0)), 1);
  }

  private static void sample() {
    start(17);
    OddsSampling x = new OddsSampling();
    x.fact(1, 2);
    int q = x.set(1, 0);
    // From 0 the first is 11, r = 0: the fact holds; then 277363943098, r = 2116118: it holds.
    due(x.sample(q, 0, 1), 1);
    due(x.seed(), 11);
    due(x.sample(q, 0, 2), 2);
    due(x.seed(), 277363943098L);
    due(x.sample(q, 0, 0), 0);
    due(x.sample(q, 5, 200), sampled(5, 200, 1, 1, 2));
    due(x.sample(q, 5, 201), BAD);
    due(x.sample(q, 5, -1), BAD);
    due(x.sample(q, 5, Integer.MAX_VALUE), BAD);
    due(x.sample(q, 5, Integer.MIN_VALUE), BAD);
    due(x.sample(1, 5, 10), BAD);
    for (int none : NO_QUESTIONS) {
      due(x.sample(none, 5, 10), BAD);
    }
    // Only the lowest 48 bits of a seed count.
    due(x.sample(q, (1L << 48) + 5, 200), sampled(5, 200, 1, 1, 2));
    due(x.sample(q, -1, 200), sampled((1L << 48) - 1, 200, 1, 1, 2));
    // A fact of d = 1 is drawn, too.
    x.fact(1, 1);
    x.fact(0, 1);
    due(x.sample(q, 99, 150), sampled(99, 150, 3, 1, 2));
    x.odds(0, 5, 7);
    due(x.sample(q, 99, 150), sampled(99, 150, 3, 5, 7));
    due(x.sample(x.set(2, 4), 99, 150), 150);
    due(x.sample(x.set(4, 0), 99, 150), 0);
  }

  /** How often fact 0 holds in drawn worlds of some facts. */
  private static long sampled(long seed, int worlds, int facts, int up, int down) {
    long s = seed;
    int count = 0;
    for (int i = 0; i < worlds * facts; i++) {
      s = (s * 25214903917L + 11) % (1L << 48);
      s = s < 0 ? s + (1L << 48) : s;
      if (i % facts == 0 && (s / 131072) % down < up) {
        count++;
      }
    }
    return count;
  }

  private static void seed() {
    start(18);
    OddsSampling x = new OddsSampling();
    due(x.seed(), 0);
    int q = x.set(0, 0);
    x.sample(q, 7, 100);
    due(x.seed(), 7);
    x.sample(q, -1, 0);
    due(x.seed(), (1L << 48) - 1);
    x.sample(q, Long.MIN_VALUE, 3);
    due(x.seed(), 0);
    x.sample(q, (1L << 48) + 12, 3);
    due(x.seed(), 12);
    // A sample that is BAD draws nothing.
    x.sample(q, 3, 201);
    due(x.seed(), 12);
    x.sample(1, 3, 20);
    due(x.seed(), 12);
    x.fact(1, 1);
    x.sample(q, 0, 1);
    due(x.seed(), 11);
    x.fact(1, 2);
    x.sample(q, 0, 1);
    due(x.seed(), 277363943098L);
  }

  private static void questions() {
    start(19);
    OddsSampling x = threeFacts();
    due(x.questions(), 0);
    x.set(1, 0);
    due(x.questions(), 1);
    x.some(1, 0, 0);
    due(x.questions(), 2);
    x.join(1, 0, 1);
    due(x.questions(), 3);
    x.set(8, 0);
    x.some(8, 0, 0);
    x.join(1, 0, 3);
    x.join(4, 0, 0);
    x.chance(0, 0);
    due(x.questions(), 3);
    fill(x);
    due(x.questions(), 40);
    x.set(1, 0);
    x.some(1, 0, 0);
    x.join(1, 0, 1);
    due(x.questions(), 40);
  }

  public static void main(String[] args) {
    newObject();
    fact();
    odds();
    set();
    join();
    some();
    holds();
    chance();
    real();
    given();
    influence();
    hangs();
    likeliest();
    weight();
    worlds();
    same();
    sample();
    seed();
    questions();
    System.out.println(wrong == 0 ? "all answers are as due" : wrong + " answers are not as due");
    if (wrong != 0) {
      System.exit(1);
    }
  }
}
