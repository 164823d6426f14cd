import java.math.BigInteger;

/**
 * Each sentence of the document that names a boundary case has a test of its own here, under that
 * sentence. Every object is used for at most 512 calls.
 */
public final class EdgesTest {
  private static final int BAD = -1;
  private static final int NO = -2;
  private static final int FULL = -3;
  private static final int MIN = Integer.MIN_VALUE;
  private static final int MAX = Integer.MAX_VALUE;
  private static final long TOP = 1L << 48;
  /** The product of twelve d of 8. */
  private static final long MOST_ALL = 68719476736L;

  private static int wrong = 0;
  private static int tests = 0;
  private static String sentence = "";
  private static int row = 0;

  private interface Test {
    void run();
  }

  private static void test(int promise, String words, Test test) {
    tests++;
    row = 0;
    sentence = "promise " + promise + ", " + words;
    try {
      test.run();
    } catch (RuntimeException e) {
      tell("throws " + e);
    }
  }

  private static void tell(String what) {
    wrong++;
    System.out.println(sentence + ": " + what);
  }

  private static void due(long got, long want) {
    row++;
    if (got != want) {
      tell("answer " + row + " is " + got + ", due is " + want);
    }
  }

  private static void dueReal(double got, double want) {
    row++;
    if (got != want) {
      tell("answer " + row + " is " + got + ", due is " + want);
    }
  }

  private static void dueChance(OddsSampling x, int question, long upper, long lower) {
    due(x.chance(question, 0), upper);
    due(x.chance(question, 1), lower);
  }

  private static void dueInfluence(OddsSampling x, int q, int fact, long upper, long lower) {
    due(x.influence(q, fact, 0), upper);
    due(x.influence(q, fact, 1), lower);
  }

  /** A given() that can't be: the class says so itself, before the machine divides by 0. */
  private static void dueImpossible(OddsSampling x, int a, int b) {
    boolean thrown = false;
    try {
      x.given(a, b);
    } catch (ArithmeticException e) {
      thrown = e.getClass() == ArithmeticException.class && !"/ by zero".equals(e.getMessage());
    }
    due(thrown ? 1 : 0, 1);
  }

  private static OddsSampling facts(int count, int up, int down) {
    OddsSampling x = new OddsSampling();
    for (int i = 0; i < count; i++) {
      x.fact(up, down);
    }
    return x;
  }

  /** Facts 1/2, 2/3, 3/4. */
  private static OddsSampling threeFacts() {
    OddsSampling x = new OddsSampling();
    x.fact(1, 2);
    x.fact(2, 3);
    x.fact(3, 4);
    return x;
  }

  private static void fill(OddsSampling x) {
    for (int i = x.questions(); i < 40; i++) {
      x.set(0, 0);
    }
  }

  /** Numbers that are none of so many: just below, just beyond, and where an int wraps round. */
  private static int[] noneOf(int count) {
    return new int[] {-1, count, count + 1, 12, 32, 40, 41, 63, 64, 1 << 26, 1 << 30, MIN, MAX};
  }

  // What it is, and the public face

  private static void call512() {
    OddsSampling x = facts(1, 1, 3);
    int q = x.set(1, 0);
    for (int call = 3; call <= 511; call++) {
      due(x.sample(q, 11, 2), sampled(1, 11, 2, 1, 3));
    }
    due(x.chance(q, 1), 3);
  }

  private static void constants() {
    due(OddsSampling.BAD, -1);
    due(OddsSampling.NO, -2);
    due(OddsSampling.FULL, -3);
  }

  // Promise 1: a new object

  private static void newObjectHasNoFacts() {
    OddsSampling x = new OddsSampling();
    due(x.odds(0, 1, 2), BAD);
    for (int bit = 0; bit < 32; bit++) {
      due(x.set(1 << bit, 0), BAD);
      due(x.set(0, 1 << bit), BAD);
      due(x.some(1 << bit, 0, 1), BAD);
    }
    due(x.worlds(x.set(0, 0)), 1);
    due(x.influence(0, 0, 1), 0);
    due(x.fact(1, 2), 0);
  }

  private static void newObjectHasNoQuestions() {
    OddsSampling x = new OddsSampling();
    due(x.questions(), 0);
    due(x.holds(0, 0), BAD);
    due(x.chance(0, 0), BAD);
    dueReal(x.real(0), -1.0);
    due(x.given(0, 0), 0);
    due(x.hangs(0), BAD);
    due(x.likeliest(0), BAD);
    due(x.weight(0), 0);
    due(x.worlds(0), BAD);
    due(x.same(0, 0), BAD);
    due(x.sample(0, 1, 1), BAD);
    for (int op = 0; op < 4; op++) {
      due(x.join(op, 0, 0), BAD);
    }
    due(x.questions(), 0);
  }

  private static void newObjectKnowsNothingOfAnother() {
    OddsSampling old = threeFacts();
    fill(old);
    old.sample(0, 7, 9);
    OddsSampling x = new OddsSampling();
    due(x.questions(), 0);
    due(x.seed(), 0);
    due(x.odds(0, 1, 2), BAD);
    due(x.fact(1, 5), 0);
    due(x.set(1, 0), 0);
    dueChance(x, 0, 1, 5);
    dueChance(old, 0, 1, 1);
    due(old.questions(), 40);
  }

  // Promise 2: fact

  private static void factsAreNumberedFrom0() {
    OddsSampling x = new OddsSampling();
    due(x.fact(1, 2), 0);
    due(x.fact(1, 2), 1);
    due(x.fact(1, 2), 2);
  }

  private static void twelveFactsAtMost() {
    OddsSampling x = facts(11, 1, 2);
    due(x.fact(1, 2), 11);
    due(x.fact(1, 2), FULL);
    due(x.fact(0, 1), FULL);
    due(x.odds(11, 1, 3), 1);
    due(x.odds(12, 1, 3), BAD);
    due(x.set(1 << 12, 0), BAD);
    due(x.worlds(x.set(0, 0)), 4096);
  }

  private static void fullFactChangesNothing() {
    OddsSampling x = facts(12, 1, 2);
    int last = x.set(1 << 11, 0);
    int first = x.set(1, 0);
    due(x.fact(1, 8), FULL);
    dueChance(x, last, 1, 2);
    dueChance(x, first, 1, 2);
    due(x.worlds(last), 2048);
  }

  private static void downIsAtLeast1() {
    for (int up : new int[] {-1, 0, 1, MIN, MAX}) {
      for (int down : new int[] {0, -1, -8, MIN}) {
        due(new OddsSampling().fact(up, down), BAD);
      }
    }
    due(new OddsSampling().fact(0, 1), 0);
    due(new OddsSampling().fact(1, 1), 0);
  }

  private static void downIsAtMost8() {
    for (int up : new int[] {0, 1, 8, 9}) {
      for (int down : new int[] {9, 10, 1 << 16, MAX}) {
        due(new OddsSampling().fact(up, down), BAD);
      }
    }
    OddsSampling x = new OddsSampling();
    due(x.fact(3, 8), 0);
    dueChance(x, x.set(1, 0), 3, 8);
  }

  private static void upIsAtLeast0() {
    for (int down = 1; down <= 8; down++) {
      OddsSampling x = new OddsSampling();
      due(x.fact(-1, down), BAD);
      due(x.fact(MIN, down), BAD);
      due(x.fact(0, down), 0);
      dueChance(x, x.set(1, 0), 0, 1);
    }
  }

  private static void upIsAtMostDown() {
    for (int down = 1; down <= 8; down++) {
      OddsSampling x = new OddsSampling();
      due(x.fact(down + 1, down), BAD);
      due(x.fact(MAX, down), BAD);
      due(x.fact(down, down), 0);
      dueChance(x, x.set(1, 0), 1, 1);
    }
  }

  private static void badFactIsNone() {
    OddsSampling x = new OddsSampling();
    due(x.fact(3, 2), BAD);
    due(x.odds(0, 1, 2), BAD);
    due(x.set(1, 0), BAD);
    due(x.fact(1, 2), 0);
    due(x.fact(1, 0), BAD);
    due(x.fact(1, 2), 1);
    due(x.worlds(x.set(0, 0)), 4);
  }

  private static void badFactBeforeFull() {
    OddsSampling x = facts(12, 1, 2);
    due(x.fact(3, 2), BAD);
    due(x.fact(0, 0), BAD);
    due(x.fact(1, 9), BAD);
    due(x.fact(-1, 2), BAD);
  }

  private static void laterFactsStandInNoQuestionMadeBefore() {
    OddsSampling x = new OddsSampling();
    int all = x.set(0, 0);
    x.fact(1, 2);
    int with = x.set(1, 0);
    int without = x.join(3, with, 0);
    int none = x.some(1, 0, 0);
    for (int i = 1; i < 12; i++) {
      x.fact(0, 1 + i % 8);
      due(x.holds(with, 1 | 1 << i), 1);
      due(x.holds(without, 1 << i), 1);
      due(x.holds(none, 1 << i), 1);
      due(x.holds(all, 1 << i), 1);
      dueChance(x, with, 1, 2);
      dueChance(x, without, 1, 2);
      due(x.hangs(none), 1);
      due(x.hangs(all), 0);
      dueInfluence(x, with, i, 0, 1);
    }
  }

  // Promise 3: odds

  private static void oddsAnswer1() {
    OddsSampling x = facts(12, 1, 2);
    due(x.odds(0, 1, 2), 1);
    due(x.odds(11, 0, 1), 1);
    due(x.odds(11, 0, 8), 1);
    due(x.odds(11, 8, 8), 1);
    due(x.odds(11, 1, 1), 1);
  }

  private static void oddsOfNoFact() {
    OddsSampling x = threeFacts();
    for (int none : noneOf(3)) {
      due(x.odds(none, 1, 2), BAD);
    }
    // What was asked of a fact too early is forgotten.
    due(x.odds(3, 1, 7), BAD);
    due(x.fact(1, 5), 3);
    dueChance(x, x.set(8, 0), 1, 5);
    due(x.odds(3, 1, 7), 1);
  }

  private static void oddsThatAreNone() {
    OddsSampling x = threeFacts();
    for (int down = -2; down <= 10; down++) {
      for (int up = -2; up <= 10; up++) {
        boolean fine = 1 <= down && down <= 8 && 0 <= up && up <= down;
        due(x.odds(0, up, down), fine ? 1 : BAD);
      }
    }
    due(x.odds(0, MIN, 8), BAD);
    due(x.odds(0, 1, MIN), BAD);
    due(x.odds(0, MAX, MAX), BAD);
    due(x.odds(0, MIN, MIN), BAD);
  }

  private static void badOddsChangeNothing() {
    OddsSampling x = threeFacts();
    int q = x.set(1, 0);
    due(x.odds(0, 3, 2), BAD);
    due(x.odds(0, 1, 9), BAD);
    due(x.odds(0, 0, 0), BAD);
    due(x.odds(0, -1, 5), BAD);
    dueChance(x, q, 1, 2);
    due(x.weight(q), 6);
  }

  private static void changedOddsAreThoseOfAllQuestions() {
    OddsSampling x = threeFacts();
    int before = x.set(1, 0);
    int denied = x.join(3, before, 0);
    due(x.odds(0, 1, 8), 1);
    int after = x.set(1, 0);
    dueChance(x, before, 1, 8);
    dueChance(x, denied, 7, 8);
    dueChance(x, after, 1, 8);
    dueReal(x.real(before), 0.125);
    due(x.likeliest(x.set(0, 0)), 6);
    due(x.weight(before), 6);
    due(x.odds(0, 7, 8), 1);
    due(x.weight(before), 42);
    due(x.given(before, denied), 0);
    dueChance(x, before, 7, 8);
  }

  // Promise 4: set

  private static void setOfNoFacts() {
    OddsSampling x = new OddsSampling();
    int empty = x.set(0, 0);
    due(x.holds(empty, 0), 1);
    OddsSampling y = threeFacts();
    int all = y.set(0, 0);
    for (int world = 0; world < 8; world++) {
      due(y.holds(all, world), 1);
    }
  }

  private static void setOfAllFacts() {
    OddsSampling x = facts(12, 1, 2);
    int with = x.set(4095, 0);
    int without = x.set(0, 4095);
    due(x.holds(with, 4095), 1);
    due(x.holds(without, 0), 1);
    due(x.worlds(with), 1);
    due(x.worlds(without), 1);
    for (int i = 0; i < 12; i++) {
      due(x.holds(with, 4095 ^ 1 << i), 0);
      due(x.holds(without, 1 << i), 0);
    }
  }

  private static void setWithAndWithoutTheSameFact() {
    OddsSampling x = threeFacts();
    int none = x.set(3, 2);
    due(none, 0);
    for (int world = 0; world < 8; world++) {
      due(x.holds(none, world), 0);
    }
  }

  private static void setOfABitThatIsNoFact() {
    OddsSampling x = threeFacts();
    for (int bit = 3; bit < 32; bit++) {
      due(x.set(1 << bit, 0), BAD);
      due(x.set(0, 1 << bit), BAD);
      due(x.set(1 | 1 << bit, 2), BAD);
      due(x.set(1, 2 | 1 << bit), BAD);
    }
    due(x.set(-1, 0), BAD);
    due(x.set(0, -1), BAD);
    due(x.questions(), 0);
    due(x.set(7, 0), 0);
    due(x.set(0, 7), 1);
  }

  private static void setOfTheNextFact() {
    OddsSampling x = new OddsSampling();
    for (int i = 0; i < 12; i++) {
      due(x.set(1 << i, 0), BAD);
      due(x.fact(1, 2), i);
      due(x.set(1 << i, 0), i);
    }
    due(x.set(1 << 12, 0), BAD);
  }

  private static void setFull() {
    OddsSampling x = threeFacts();
    for (int i = 0; i < 40; i++) {
      due(x.set(i & 7, 0), i);
    }
    due(x.set(1, 0), FULL);
    due(x.set(0, 0), FULL);
    due(x.questions(), 40);
    for (int i = 0; i < 40; i++) {
      due(x.worlds(i), 8 >> Integer.bitCount(i & 7));
    }
  }

  private static void badSetBeforeFull() {
    OddsSampling x = threeFacts();
    fill(x);
    due(x.set(8, 0), BAD);
    due(x.set(0, 8), BAD);
    due(x.set(-1, -1), BAD);
  }

  // Promise 5: join

  private static void joinOfOtherOps() {
    OddsSampling x = threeFacts();
    x.set(1, 0);
    for (int op : new int[] {-1, 4, 5, 7, 8, 256, MIN, MAX}) {
      due(x.join(op, 0, 0), BAD);
    }
    due(x.questions(), 1);
    due(x.join(0, 0, 0), 1);
    due(x.join(3, 0, 0), 2);
  }

  private static void joinOfNoFirstQuestion() {
    OddsSampling x = threeFacts();
    x.set(1, 0);
    for (int none : noneOf(1)) {
      for (int op = 0; op < 4; op++) {
        due(x.join(op, none, 0), BAD);
      }
    }
    due(x.questions(), 1);
  }

  private static void joinOfNoSecondQuestion() {
    OddsSampling x = threeFacts();
    x.set(1, 0);
    for (int none : noneOf(1)) {
      for (int op = 0; op < 3; op++) {
        due(x.join(op, 0, none), BAD);
      }
    }
    due(x.questions(), 1);
  }

  private static void joinNotLooksAtNoSecondQuestion() {
    OddsSampling x = threeFacts();
    x.set(1, 0);
    int without = x.set(0, 1);
    int next = 2;
    for (int any : noneOf(30)) {
      due(x.join(3, 0, any), next);
      due(x.same(next, without), 1);
      next++;
    }
  }

  private static void joinWithItself() {
    OddsSampling x = threeFacts();
    int q = x.set(1, 4);
    due(x.same(x.join(0, q, q), q), 1);
    due(x.same(x.join(1, q, q), q), 1);
    due(x.worlds(x.join(2, q, q)), 0);
    due(x.same(x.join(3, x.join(3, q, q), q), q), 1);
  }

  private static void joinOfAllAndNone() {
    OddsSampling x = threeFacts();
    int all = x.set(0, 0);
    int none = x.set(1, 1);
    due(x.worlds(x.join(0, all, none)), 0);
    due(x.worlds(x.join(1, all, none)), 8);
    due(x.worlds(x.join(2, all, none)), 8);
    due(x.worlds(x.join(3, all, none)), 0);
    due(x.worlds(x.join(3, none, all)), 8);
    due(x.worlds(x.join(1, none, none)), 0);
    due(x.worlds(x.join(2, all, all)), 0);
  }

  private static void joinFull() {
    OddsSampling x = threeFacts();
    int a = x.set(1, 0);
    for (int i = 1; i < 39; i++) {
      x.set(2, 0);
    }
    due(x.join(2, a, 38), 39);
    for (int op = 0; op < 4; op++) {
      due(x.join(op, a, 1), FULL);
    }
    due(x.join(3, a, 77), FULL);
    due(x.questions(), 40);
    due(x.worlds(39), 4);
    due(x.hangs(39), 3);
  }

  private static void badJoinBeforeFull() {
    OddsSampling x = threeFacts();
    fill(x);
    due(x.join(4, 0, 0), BAD);
    due(x.join(-1, 0, 0), BAD);
    due(x.join(0, 40, 0), BAD);
    due(x.join(0, 0, 40), BAD);
    due(x.join(3, 40, 0), BAD);
    due(x.join(0, -1, 0), BAD);
  }

  // Promise 6: some

  private static void someFromLeastToMost() {
    OddsSampling x = facts(4, 1, 2);
    int[] ofSoMany = {1, 4, 6, 4, 1};
    for (int least = 0; least <= 4; least++) {
      int worlds = 0;
      for (int most = least; most <= 4; most++) {
        worlds += ofSoMany[most];
        int q = x.some(15, least, most);
        due(x.worlds(q), worlds);
        due(x.holds(q, (1 << least) - 1), 1);
        due(x.holds(q, (1 << most) - 1), 1);
        if (least > 0) {
          due(x.holds(q, (1 << (least - 1)) - 1), 0);
        }
        if (most < 4) {
          due(x.holds(q, (1 << (most + 1)) - 1), 0);
        }
      }
    }
  }

  private static void someOfNoFacts() {
    OddsSampling x = threeFacts();
    due(x.worlds(x.some(0, 0, 0)), 8);
    due(x.worlds(x.some(0, 0, 5)), 8);
    due(x.worlds(x.some(0, -3, 0)), 8);
    due(x.worlds(x.some(0, 1, 3)), 0);
    due(x.worlds(x.some(0, -3, -1)), 0);
    OddsSampling y = new OddsSampling();
    due(y.worlds(y.some(0, 0, 0)), 1);
    due(y.worlds(y.some(0, 1, 1)), 0);
  }

  private static void someOfLeastAboveMost() {
    OddsSampling x = threeFacts();
    due(x.worlds(x.some(7, 2, 1)), 0);
    due(x.worlds(x.some(7, 1, 0)), 0);
    due(x.worlds(x.some(7, 3, -1)), 0);
    due(x.worlds(x.some(7, MAX, MIN)), 0);
    due(x.questions(), 4);
  }

  private static void someOfLeastBelow0() {
    OddsSampling x = threeFacts();
    due(x.worlds(x.some(7, -1, 0)), 1);
    due(x.worlds(x.some(7, MIN, 1)), 4);
    due(x.worlds(x.some(7, MIN, MAX)), 8);
    due(x.worlds(x.some(7, MIN, -1)), 0);
  }

  private static void someOfMostAboveTheirNumber() {
    OddsSampling x = threeFacts();
    due(x.worlds(x.some(7, 3, 4)), 1);
    due(x.worlds(x.some(7, 2, MAX)), 4);
    due(x.worlds(x.some(7, 4, MAX)), 0);
    due(x.worlds(x.some(7, MAX, MAX)), 0);
  }

  private static void someOfAllTwelveFacts() {
    OddsSampling x = facts(12, 1, 2);
    int[] ofSoMany = {1, 12, 66, 220, 495, 792, 924, 792, 495, 220, 66, 12, 1};
    for (int held = 0; held <= 12; held++) {
      due(x.worlds(x.some(4095, held, held)), ofSoMany[held]);
    }
    due(x.worlds(x.some(4095, 13, 13)), 0);
  }

  private static void someOfABitThatIsNoFact() {
    OddsSampling x = threeFacts();
    for (int bit = 3; bit < 32; bit++) {
      due(x.some(1 << bit, 0, 1), BAD);
      due(x.some(7 | 1 << bit, 0, 1), BAD);
    }
    due(x.some(-1, 0, 32), BAD);
    due(x.questions(), 0);
    due(x.some(7, 0, 1), 0);
    due(x.some(0, 0, 1), 1);
  }

  private static void someFull() {
    OddsSampling x = threeFacts();
    for (int i = 0; i < 40; i++) {
      due(x.some(7, 1, 1), i);
    }
    due(x.some(7, 0, 3), FULL);
    due(x.some(7, 2, 1), FULL);
    due(x.questions(), 40);
    due(x.worlds(39), 3);
    due(x.worlds(0), 3);
  }

  private static void badSomeBeforeFull() {
    OddsSampling x = threeFacts();
    fill(x);
    due(x.some(8, 0, 1), BAD);
    due(x.some(MIN, 0, 1), BAD);
  }

  // Promise 7: holds

  private static void holdsBitsThatAreNoFacts() {
    OddsSampling x = threeFacts();
    int q = x.set(4, 1);
    for (int bit = 3; bit < 32; bit++) {
      due(x.holds(q, 4 | 1 << bit), 1);
      due(x.holds(q, 5 | 1 << bit), 0);
      due(x.holds(q, 1 << bit), 0);
    }
    due(x.holds(q, -1), 0);
    due(x.holds(q, -2), 1);
    due(x.holds(q, MAX), 0);
    due(x.holds(q, MAX - 1), 1);
    due(x.holds(q, MIN), 0);
    OddsSampling y = new OddsSampling();
    due(y.holds(y.set(0, 0), -1), 1);
    OddsSampling z = facts(12, 1, 2);
    int last = z.set(2048, 1);
    for (int bit = 12; bit < 32; bit++) {
      due(z.holds(last, 2048 | 1 << bit), 1);
      due(z.holds(last, 2049 | 1 << bit), 0);
      due(z.holds(last, 1 << bit), 0);
    }
    due(z.holds(last, -1), 0);
    due(z.holds(last, -2), 1);
    due(z.holds(last, ~2049), 0);
  }

  private static void holdsNoQuestion() {
    OddsSampling x = threeFacts();
    x.set(0, 0);
    for (int none : noneOf(1)) {
      due(x.holds(none, 0), BAD);
      due(x.holds(none, -1), BAD);
    }
    due(x.holds(0, 0), 1);
  }

  private static void holdsTheLastQuestion() {
    OddsSampling x = facts(12, 1, 2);
    fill(x);
    due(x.holds(39, 4095), 1);
    due(x.holds(39, 0), 1);
    due(x.holds(40, 4095), BAD);
  }

  // Promise 8: chance

  private static void chanceInLowestTerms() {
    OddsSampling x = new OddsSampling();
    x.fact(4, 8);
    x.fact(2, 6);
    dueChance(x, x.set(1, 0), 1, 2);
    dueChance(x, x.set(2, 0), 1, 3);
    dueChance(x, x.set(3, 0), 1, 6);
    dueChance(x, x.set(0, 2), 2, 3);
    dueChance(x, x.some(3, 1, 1), 1, 2);
  }

  private static void chanceOf0() {
    OddsSampling x = threeFacts();
    dueChance(x, x.set(1, 1), 0, 1);
    int last = x.set(4, 0);
    x.odds(2, 0, 8);
    dueChance(x, last, 0, 1);
  }

  private static void chanceOf1() {
    OddsSampling x = threeFacts();
    dueChance(x, x.set(0, 0), 1, 1);
    int last = x.set(4, 0);
    x.odds(2, 8, 8);
    dueChance(x, last, 1, 1);
    OddsSampling y = new OddsSampling();
    dueChance(y, y.set(0, 0), 1, 1);
  }

  private static void chanceOfTheGreatestAll() {
    OddsSampling x = facts(12, 1, 8);
    dueChance(x, x.set(4095, 0), 1, MOST_ALL);
    dueChance(x, x.some(4095, 0, 11), MOST_ALL - 1, MOST_ALL);
    dueChance(x, x.set(0, 4095), 13841287201L, MOST_ALL);
    dueChance(x, x.set(0, 0), 1, 1);
  }

  private static void chanceOfOtherParts() {
    OddsSampling x = threeFacts();
    int q = x.set(1, 0);
    for (int part : new int[] {-1, 2, 3, 256, MIN, MAX}) {
      due(x.chance(q, part), BAD);
    }
  }

  private static void chanceOfNoQuestion() {
    OddsSampling x = threeFacts();
    x.set(1, 0);
    for (int none : noneOf(1)) {
      dueChance(x, none, BAD, BAD);
    }
    due(x.chance(1, 2), BAD);
  }

  // Promise 9: real

  private static void realOfNoQuestion() {
    OddsSampling x = threeFacts();
    x.set(1, 0);
    for (int none : noneOf(1)) {
      dueReal(x.real(none), -1.0);
    }
    dueReal(x.real(0), 0.5);
  }

  private static void realOf0And1() {
    OddsSampling x = threeFacts();
    dueReal(x.real(x.set(1, 1)), 0.0);
    dueReal(x.real(x.set(0, 0)), 1.0);
    OddsSampling y = new OddsSampling();
    dueReal(y.real(y.set(0, 0)), 1.0);
    dueReal(y.real(y.some(0, 1, 1)), 0.0);
  }

  private static void realOfTheLeastAndTheGreatest() {
    OddsSampling x = facts(12, 1, 8);
    dueReal(x.real(x.set(4095, 0)), 1.0 / MOST_ALL);
    dueReal(x.real(x.some(4095, 0, 11)), (MOST_ALL - 1.0) / MOST_ALL);
    OddsSampling y = facts(12, 6, 7);
    dueReal(y.real(y.set(4095, 0)), 2176782336.0 / 13841287201.0);
  }

  // Promise 10: given

  private static void givenLeavesTheRestOff() {
    OddsSampling x = threeFacts();
    int all = x.set(0, 0);
    due(x.given(x.set(2, 0), all), 666666);
    due(x.given(x.set(0, 2), all), 333333);
    OddsSampling y = facts(12, 1, 8);
    int any = y.set(0, 0);
    due(y.given(y.set(4095, 0), any), 0);
    due(y.given(y.some(4095, 0, 11), any), 999999);
  }

  private static void givenOfNoQuestion() {
    OddsSampling x = threeFacts();
    int all = x.set(0, 0);
    int never = x.set(1, 1);
    for (int none : noneOf(2)) {
      due(x.given(none, all), 0);
      due(x.given(all, none), 0);
      due(x.given(none, never), 0);
      due(x.given(never, none), 0);
      due(x.given(none, none), 0);
    }
  }

  private static void givenOdds0() {
    OddsSampling x = threeFacts();
    int all = x.set(0, 0);
    int never = x.set(1, 1);
    int first = x.set(1, 0);
    dueImpossible(x, all, never);
    dueImpossible(x, never, never);
    // True in some worlds, all of weight 0.
    x.odds(0, 0, 3);
    dueImpossible(x, all, first);
    dueImpossible(x, first, first);
    // It is b alone that must be possible.
    due(x.given(first, all), 0);
  }

  private static void givenThatCanNotBeChangesNothing() {
    OddsSampling x = threeFacts();
    int all = x.set(0, 0);
    int first = x.set(1, 0);
    x.sample(all, 5, 3);
    long seed = x.seed();
    x.odds(0, 0, 3);
    dueImpossible(x, all, first);
    due(x.questions(), 2);
    due(x.seed(), seed);
    due(x.worlds(first), 4);
    x.odds(0, 1, 3);
    due(x.given(first, all), 333333);
    due(x.given(all, first), 1000000);
  }

  private static void givenTheLeastOddsAbove0() {
    OddsSampling x = facts(12, 1, 8);
    int all = x.set(0, 0);
    int least = x.set(4095, 0);
    due(x.given(all, least), 1000000);
    due(x.given(x.set(0, 1), least), 0);
    OddsSampling y = facts(1, 1, 2);
    int first = y.set(1, 0);
    due(y.given(first, first), 1000000);
  }

  private static void givenAtMostAMillion() {
    OddsSampling x = facts(12, 7, 8);
    int all = x.set(0, 0);
    int upper = x.set(4095, 0);
    due(x.given(all, all), 1000000);
    due(x.given(all, upper), 1000000);
    due(x.given(upper, upper), 1000000);
    due(x.given(x.set(0, 4095), upper), 0);
  }

  // Promise 11: influence

  private static void influenceBelow0() {
    OddsSampling x = threeFacts();
    int neither = x.set(0, 3);
    dueInfluence(x, neither, 0, -1, 3);
    dueInfluence(x, neither, 1, -1, 2);
    dueInfluence(x, x.set(0, 1), 0, -1, 1);
    dueInfluence(x, x.some(3, 1, 1), 0, -1, 3);
  }

  private static void influenceOfNothing() {
    OddsSampling x = threeFacts();
    dueInfluence(x, x.set(0, 0), 0, 0, 1);
    dueInfluence(x, x.set(1, 1), 0, 0, 1);
    dueInfluence(x, x.set(1, 0), 2, 0, 1);
    // It hangs on fact 0, but as much one way as the other.
    dueInfluence(x, x.some(3, 1, 1), 1, 0, 1);
  }

  private static void influenceInLowestTerms() {
    OddsSampling x = new OddsSampling();
    x.fact(1, 2);
    x.fact(4, 8);
    x.fact(2, 6);
    int all = x.set(7, 0);
    dueInfluence(x, all, 0, 1, 6);
    dueInfluence(x, all, 1, 1, 6);
    dueInfluence(x, all, 2, 1, 4);
    dueInfluence(x, x.set(0, 7), 1, -1, 3);
    dueInfluence(x, x.set(1, 0), 0, 1, 1);
  }

  private static void influenceWhateverTheFactsOwnOdds() {
    OddsSampling x = threeFacts();
    int both = x.set(3, 0);
    int neither = x.set(0, 3);
    int[][] own = {{0, 1}, {1, 1}, {0, 8}, {8, 8}, {3, 7}};
    for (int[] odds : own) {
      x.odds(0, odds[0], odds[1]);
      dueInfluence(x, both, 0, 2, 3);
      dueInfluence(x, neither, 0, -1, 3);
    }
  }

  private static void influenceChangesNoOdds() {
    OddsSampling x = threeFacts();
    int both = x.set(3, 0);
    due(x.influence(both, 0, 0), 2);
    due(x.influence(both, 1, 1), 2);
    dueChance(x, both, 1, 3);
    due(x.weight(both), 6);
  }

  private static void influenceOfNoQuestion() {
    OddsSampling x = threeFacts();
    x.set(1, 0);
    for (int none : noneOf(1)) {
      dueInfluence(x, none, 0, 0, 0);
    }
    dueInfluence(x, 0, 0, 1, 1);
  }

  private static void influenceOfNoFact() {
    OddsSampling x = threeFacts();
    int all = x.set(7, 0);
    for (int none : noneOf(3)) {
      dueInfluence(x, all, none, 0, 0);
    }
    dueInfluence(x, all, 2, 1, 3);
  }

  private static void influenceOfOtherParts() {
    OddsSampling x = threeFacts();
    int all = x.set(7, 0);
    for (int part : new int[] {-1, 2, 3, 256, MIN, MAX}) {
      due(x.influence(all, 0, part), 0);
    }
  }

  private static void influenceOfTheGreatestProduct() {
    OddsSampling x = facts(12, 1, 8);
    int all = x.set(4095, 0);
    int none = x.set(0, 4095);
    for (int i = 0; i < 12; i++) {
      dueInfluence(x, all, i, 1, MOST_ALL / 8);
      dueInfluence(x, none, i, -1977326743L, MOST_ALL / 8);
    }
    OddsSampling y = facts(12, 7, 8);
    dueInfluence(y, y.set(4095, 0), 11, 1977326743L, MOST_ALL / 8);
    dueInfluence(y, y.set(0, 4095), 11, -1, MOST_ALL / 8);
  }

  // Promise 12: hangs

  private static void hangsWhateverTheWeight() {
    OddsSampling x = threeFacts();
    int all = x.set(7, 0);
    x.odds(0, 0, 1);
    x.odds(1, 1, 1);
    x.odds(2, 0, 8);
    due(x.hangs(all), 7);
    due(x.hangs(x.set(1, 2)), 3);
  }

  private static void hangsOnOneWorldAlone() {
    OddsSampling x = facts(12, 1, 2);
    due(x.hangs(x.set(4095, 0)), 4095);
    due(x.hangs(x.set(0, 4095)), 4095);
    due(x.hangs(x.some(4095, 0, 11)), 4095);
    for (int i = 0; i < 12; i++) {
      due(x.hangs(x.set(1 << i, 0)), 1 << i);
      due(x.hangs(x.set(0, 4095 ^ 1 << i)), 4095 ^ 1 << i);
    }
  }

  /** Turning one of the two round leaves as many true worlds as there were, but other ones. */
  private static void hangsOnBothOfWhichJustOneHolds() {
    OddsSampling x = facts(12, 1, 2);
    for (int i = 0; i < 12; i++) {
      due(x.set(1 << i, 0), i);
    }
    for (int i = 0; i < 12; i++) {
      int other = (i + 5) % 12;
      due(x.hangs(x.join(2, i, other)), 1 << i | 1 << other);
    }
  }

  private static void hangsOnNothing() {
    OddsSampling x = threeFacts();
    int q = x.set(1, 0);
    due(x.hangs(x.set(0, 0)), 0);
    due(x.hangs(x.set(1, 1)), 0);
    due(x.hangs(x.join(2, q, q)), 0);
    due(x.hangs(x.join(1, q, x.join(3, q, q))), 0);
    OddsSampling y = new OddsSampling();
    due(y.hangs(y.set(0, 0)), 0);
  }

  private static void hangsNotOnAFactThatWasNamedInVain() {
    OddsSampling x = threeFacts();
    int with = x.set(5, 0);
    int without = x.set(4, 1);
    due(x.hangs(x.join(1, with, without)), 4);
    due(x.hangs(x.join(2, with, without)), 4);
    due(x.hangs(x.join(0, with, without)), 0);
    due(x.hangs(x.some(3, 0, 2)), 0);
  }

  private static void hangsOfNoQuestion() {
    OddsSampling x = threeFacts();
    x.set(1, 0);
    for (int none : noneOf(1)) {
      due(x.hangs(none), BAD);
    }
  }

  // Promise 13: likeliest

  private static void likeliestOfEqualWorlds() {
    OddsSampling x = facts(12, 1, 2);
    due(x.likeliest(x.set(0, 0)), 0);
    due(x.likeliest(x.some(4095, 1, 12)), 1);
    due(x.likeliest(x.some(4095, 2, 12)), 3);
    due(x.likeliest(x.some(4095, 11, 11)), 2047);
    due(x.likeliest(x.set(2048, 0)), 2048);
    due(x.likeliest(x.set(4095, 0)), 4095);
    // Two equal ones, greater than the others, and not the least worlds.
    OddsSampling y = threeFacts();
    due(y.likeliest(y.set(0, 0)), 6);
  }

  private static void likeliestOfNone() {
    OddsSampling x = threeFacts();
    due(x.likeliest(x.set(1, 1)), NO);
    due(x.likeliest(x.some(7, 4, 4)), NO);
    x.odds(0, 0, 1);
    due(x.likeliest(0), NO);
    OddsSampling y = new OddsSampling();
    due(y.likeliest(y.some(0, 1, 1)), NO);
  }

  private static void likeliestOfWeights0() {
    OddsSampling x = threeFacts();
    x.odds(0, 0, 1);
    due(x.likeliest(x.set(1, 0)), 1);
    due(x.likeliest(x.set(5, 0)), 5);
    due(x.likeliest(x.set(7, 0)), 7);
    // A weight above 0 is greater, though its world has the greater number.
    x.odds(2, 1, 1);
    due(x.likeliest(x.some(7, 0, 2)), 6);
    due(x.likeliest(x.set(0, 2)), 4);
    OddsSampling y = facts(12, 1, 1);
    due(y.likeliest(y.set(0, 4095)), 0);
    due(y.likeliest(y.set(0, 0)), 4095);
  }

  private static void likeliestWithoutFacts() {
    OddsSampling x = new OddsSampling();
    due(x.likeliest(x.set(0, 0)), 0);
  }

  private static void likeliestOfNoQuestion() {
    OddsSampling x = threeFacts();
    x.set(1, 1);
    for (int none : noneOf(1)) {
      due(x.likeliest(none), BAD);
    }
    due(x.likeliest(0), NO);
  }

  // Promise 14: weight

  private static void weightWhereThereIsNoWorld() {
    OddsSampling x = threeFacts();
    due(x.weight(x.set(1, 1)), 0);
    due(x.weight(x.some(7, 4, 4)), 0);
  }

  private static void weightWhereThereIsNoQuestion() {
    OddsSampling x = threeFacts();
    x.set(0, 0);
    for (int none : noneOf(1)) {
      due(x.weight(none), 0);
    }
  }

  private static void weightOf0() {
    OddsSampling x = threeFacts();
    x.odds(0, 0, 1);
    due(x.weight(x.set(1, 0)), 0);
    due(x.weight(x.set(0, 0)), 6);
  }

  private static void leastAndGreatestWeight() {
    OddsSampling x = new OddsSampling();
    int all = x.set(0, 0);
    due(x.weight(all), 1);
    for (int i = 0; i < 12; i++) {
      due(x.fact(8, 8), i);
    }
    due(x.weight(all), MOST_ALL);
    OddsSampling y = facts(12, 1, 8);
    due(y.weight(y.set(4095, 0)), 1);
    due(y.weight(y.set(0, 0)), 13841287201L);
  }

  // Promise 15: worlds

  private static void worldsWhateverTheirWeights() {
    OddsSampling x = threeFacts();
    int one = x.some(7, 1, 1);
    int first = x.set(1, 0);
    x.odds(0, 0, 1);
    x.odds(1, 0, 8);
    x.odds(2, 1, 1);
    due(x.worlds(one), 3);
    due(x.worlds(first), 4);
    OddsSampling y = facts(12, 0, 1);
    due(y.worlds(y.set(0, 0)), 4096);
    due(y.worlds(y.set(2049, 0)), 1024);
    due(y.worlds(y.set(4095, 0)), 1);
  }

  private static void worldsOfNoneAndAll() {
    OddsSampling x = new OddsSampling();
    int all = x.set(0, 0);
    int none = x.some(0, 1, 1);
    due(x.worlds(all), 1);
    due(x.worlds(none), 0);
    for (int i = 0; i < 12; i++) {
      x.fact(1, 2);
      due(x.worlds(all), 2L << i);
      due(x.worlds(none), 0);
    }
  }

  private static void worldsOfNoQuestion() {
    OddsSampling x = threeFacts();
    x.set(0, 0);
    for (int none : noneOf(1)) {
      due(x.worlds(none), BAD);
    }
  }

  // Promise 16: same

  private static void sameWhereOneWorldDiffers() {
    OddsSampling x = facts(12, 1, 2);
    int none = x.set(1, 1);
    int all = x.set(0, 0);
    for (int world : new int[] {0, 1, 63, 64, 2048, 4032, 4095}) {
      int one = x.set(world, 4095 ^ world);
      due(x.same(none, one), 0);
      due(x.same(one, none), 0);
      due(x.same(all, x.join(3, one, 0)), 0);
    }
    due(x.same(none, all), 0);
  }

  private static void sameInNumberAlone() {
    OddsSampling x = facts(12, 1, 2);
    int first = x.set(1, 0);
    for (int i = 1; i < 12; i++) {
      int other = x.set(1 << i, 0);
      due(x.same(first, other), 0);
      due(x.same(other, first), 0);
      due(x.worlds(other), x.worlds(first));
      due(x.weight(other), x.weight(first));
    }
  }

  private static void sameButForAWorldOfWeight0() {
    OddsSampling x = threeFacts();
    int first = x.set(1, 0);
    int both = x.set(3, 0);
    x.odds(1, 1, 1);
    dueChance(x, first, 1, 2);
    dueChance(x, both, 1, 2);
    due(x.same(first, both), 0);
  }

  private static void sameThoughMadeOtherwise() {
    OddsSampling x = new OddsSampling();
    x.fact(1, 2);
    int before = x.set(1, 0);
    x.fact(1, 2);
    int after = x.set(1, 0);
    int joined = x.join(3, x.some(1, 0, 0), 0);
    due(x.same(before, after), 1);
    due(x.same(after, joined), 1);
    due(x.same(joined, joined), 1);
    due(x.same(x.set(1, 1), x.some(3, 3, 3)), 1);
  }

  private static void sameOfNoQuestion() {
    OddsSampling x = threeFacts();
    x.set(0, 0);
    for (int none : noneOf(1)) {
      due(x.same(none, 0), BAD);
      due(x.same(0, none), BAD);
      due(x.same(none, none), BAD);
    }
    due(x.same(0, 0), 1);
  }

  // Promise 17: sample

  /** Drawn by the document's words, with whole numbers: all facts alike, fact 0 is counted. */
  private static int sampled(int facts, long seed, int worlds, int up, int down) {
    BigInteger s = BigInteger.valueOf(seed).mod(BigInteger.TWO.pow(48));
    int count = 0;
    for (int drawn = 0; drawn < worlds * facts; drawn++) {
      s = next(s);
      long r = s.shiftRight(17).longValueExact();
      if (drawn % facts == 0 && r % down < up) {
        count++;
      }
    }
    return count;
  }

  private static long seedAfter(long seed, int draws) {
    BigInteger s = BigInteger.valueOf(seed).mod(BigInteger.TWO.pow(48));
    for (int drawn = 0; drawn < draws; drawn++) {
      s = next(s);
    }
    return s.longValueExact();
  }

  private static BigInteger next(BigInteger s) {
    BigInteger grown = s.multiply(BigInteger.valueOf(25214903917L)).add(BigInteger.valueOf(11));
    return grown.mod(BigInteger.TWO.pow(48));
  }

  private static void sampleOfNoWorlds() {
    OddsSampling x = threeFacts();
    due(x.sample(x.set(0, 0), 9, 0), 0);
    due(x.seed(), 9);
  }

  private static void sampleOf200Worlds() {
    OddsSampling x = facts(12, 3, 7);
    int first = x.set(1, 0);
    due(x.sample(first, 9, 200), sampled(12, 9, 200, 3, 7));
    due(x.seed(), seedAfter(9, 2400));
    due(x.sample(x.set(0, 0), 9, 200), 200);
    due(x.sample(x.set(1, 1), 9, 200), 0);
  }

  private static void sampleOfTooManyOrTooFewWorlds() {
    OddsSampling x = threeFacts();
    int q = x.set(0, 0);
    for (int worlds : new int[] {-1, 201, 202, 256, 1 << 16, MIN, MAX}) {
      due(x.sample(q, 9, worlds), BAD);
    }
  }

  private static void sampleOfNoQuestion() {
    OddsSampling x = threeFacts();
    x.set(0, 0);
    for (int none : noneOf(1)) {
      due(x.sample(none, 9, 10), BAD);
      due(x.sample(none, 9, 0), BAD);
    }
  }

  private static void sampleOfASeedsLowest48Bits() {
    OddsSampling x = facts(1, 1, 2);
    int q = x.set(1, 0);
    for (long seed : new long[] {0, 1, 5, TOP - 1, 123456789012345L}) {
      int want = sampled(1, seed, 100, 1, 2);
      for (int bit = 48; bit < 64; bit++) {
        due(x.sample(q, seed | 1L << bit, 100), want);
        due(x.seed(), seedAfter(seed, 100));
      }
    }
    due(x.sample(q, -1, 100), sampled(1, TOP - 1, 100, 1, 2));
    due(x.sample(q, Long.MIN_VALUE, 100), sampled(1, 0, 100, 1, 2));
    due(x.sample(q, Long.MAX_VALUE, 100), sampled(1, TOP - 1, 100, 1, 2));
  }

  private static void sampleModulo2To48() {
    OddsSampling x = facts(1, 1, 1);
    int q = x.set(1, 0);
    due(x.sample(q, TOP - 1, 1), 1);
    due(x.seed(), 281449761806750L);
    x.sample(q, TOP - 1, 2);
    due(x.seed(), 76003201113169L);
    x.sample(q, TOP - 1, 3);
    due(x.seed(), 59440590197896L);
    x.sample(q, TOP / 2, 200);
    due(x.seed(), seedAfter(TOP / 2, 200));
  }

  private static void sampleDrawsBits17To47() {
    // From 2^48 - 1 the first r is 2147291273: of 31 bits, 1 modulo 7; its lower 30 are 0 modulo 7.
    OddsSampling x = facts(1, 1, 7);
    int q = x.set(1, 0);
    due(x.sample(q, -1, 1), 0);
    x.odds(0, 2, 7);
    due(x.sample(q, -1, 1), 1);
    // From 0 the first s is 11, with r = 0; the second r is 2116118, 6 modulo 8.
    x.odds(0, 1, 8);
    due(x.sample(q, 0, 1), 1);
    due(x.sample(q, 0, 2), 1);
    x.odds(0, 6, 8);
    due(x.sample(q, 0, 2), 1);
    x.odds(0, 7, 8);
    due(x.sample(q, 0, 2), 2);
  }

  private static void sampleOfSureFacts() {
    OddsSampling x = facts(2, 0, 5);
    x.odds(1, 5, 5);
    due(x.sample(x.set(1, 0), 3, 200), 0);
    due(x.sample(x.set(2, 0), 3, 200), 200);
    due(x.sample(x.set(2, 1), 4, 200), 200);
  }

  private static void sampleDrawsAFactOfDown1Too() {
    OddsSampling x = new OddsSampling();
    x.fact(1, 1);
    x.fact(0, 1);
    x.fact(1, 2);
    int q = x.set(4, 0);
    // The third draw from 0 has r = 89401895, the sixth r = 196130996.
    due(x.sample(q, 0, 1), 0);
    due(x.seed(), 11718085204285L);
    due(x.sample(q, 0, 2), 1);
    due(x.seed(), 25707281917278L);
  }

  private static void sampleDrawsFromFact0On() {
    // r = 0 for fact 0, 2116118 for fact 1, 89401895 for fact 2: 0, 6 and 7 modulo 8.
    OddsSampling x = facts(3, 7, 8);
    due(x.sample(x.set(3, 4), 0, 1), 1);
    x.odds(1, 6, 8);
    due(x.sample(x.set(1, 6), 0, 1), 1);
  }

  private static void sampleWithoutFactsDrawsNothing() {
    OddsSampling x = new OddsSampling();
    due(x.sample(x.set(0, 0), 77, 200), 200);
    due(x.seed(), 77);
    due(x.sample(x.some(0, 1, 1), -1, 200), 0);
    due(x.seed(), TOP - 1);
  }

  private static void sampleDrawsFactsThatCameLater() {
    OddsSampling x = new OddsSampling();
    x.fact(1, 2);
    int q = x.set(1, 0);
    due(x.sample(q, 0, 2), 2);
    due(x.seed(), seedAfter(0, 2));
    x.fact(1, 2);
    due(x.sample(q, 0, 2), sampled(2, 0, 2, 1, 2));
    due(x.seed(), seedAfter(0, 4));
  }

  // Promise 18: seed

  private static void seedBeforeASample() {
    OddsSampling x = threeFacts();
    due(x.seed(), 0);
    int q = x.set(0, 0);
    x.chance(q, 0);
    x.given(q, q);
    due(x.seed(), 0);
  }

  private static void seedOfTheLatestSample() {
    OddsSampling x = facts(1, 1, 2);
    int q = x.set(1, 0);
    x.sample(q, 0, 1);
    due(x.seed(), 11);
    due(x.seed(), 11);
    x.sample(q, 0, 2);
    due(x.seed(), 277363943098L);
    // A sample begins from its own seed, not from where the one before came to.
    x.sample(q, 0, 1);
    due(x.seed(), 11);
    // It goes on from there, when it is given it.
    x.sample(q, x.seed(), 1);
    due(x.seed(), 277363943098L);
  }

  private static void seedOfASampleOfNoWorlds() {
    OddsSampling x = threeFacts();
    int q = x.set(0, 0);
    x.sample(q, 41, 3);
    x.sample(q, 42, 0);
    due(x.seed(), 42);
    x.sample(q, -1, 0);
    due(x.seed(), TOP - 1);
    x.sample(q, TOP, 0);
    due(x.seed(), 0);
    x.sample(q, TOP + 12, 0);
    due(x.seed(), 12);
    x.sample(q, Long.MIN_VALUE, 0);
    due(x.seed(), 0);
    x.sample(q, Long.MAX_VALUE, 0);
    due(x.seed(), TOP - 1);
  }

  private static void badSampleLeavesTheSeed() {
    OddsSampling x = threeFacts();
    int q = x.set(0, 0);
    due(x.sample(q, 8, 201), BAD);
    due(x.seed(), 0);
    x.sample(q, 42, 0);
    due(x.sample(q, 7, 201), BAD);
    due(x.seed(), 42);
    due(x.sample(q, 7, -1), BAD);
    due(x.seed(), 42);
    due(x.sample(1, 7, 5), BAD);
    due(x.seed(), 42);
    due(x.sample(-1, 7, 5), BAD);
    due(x.seed(), 42);
  }

  // Promise 19: questions

  private static void questionsFrom0To40() {
    OddsSampling x = threeFacts();
    for (int i = 0; i < 40; i++) {
      due(x.questions(), i);
      int made = i % 3 == 0 ? x.set(1, 0) : i % 3 == 1 ? x.some(3, 1, 1) : x.join(0, 0, 1);
      due(made, i);
    }
    due(x.questions(), 40);
  }

  private static void refusedQuestionsDoNotCount() {
    OddsSampling x = threeFacts();
    x.set(1, 0);
    x.set(8, 0);
    x.some(8, 0, 0);
    x.join(0, 0, 1);
    x.join(3, 1, 0);
    x.join(4, 0, 0);
    due(x.questions(), 1);
    fill(x);
    x.set(1, 0);
    x.some(1, 0, 0);
    x.join(3, 0, 0);
    due(x.questions(), 40);
    due(x.holds(40, 0), BAD);
  }

  private static void factsAreNoQuestions() {
    OddsSampling x = facts(12, 1, 2);
    x.odds(0, 1, 3);
    due(x.questions(), 0);
    due(x.holds(0, 1), BAD);
  }

  private static void testFacts() {
    test(0, "an object is used for at most 512 calls", EdgesTest::call512);
    test(0, "BAD = -1, NO = -2, FULL = -3", EdgesTest::constants);
    test(1, "no facts", EdgesTest::newObjectHasNoFacts);
    test(1, "no questions", EdgesTest::newObjectHasNoQuestions);
    test(1, "a new object", EdgesTest::newObjectKnowsNothingOfAnother);
    test(2, "facts are numbered from 0", EdgesTest::factsAreNumberedFrom0);
    test(2, "at most 12; FULL", EdgesTest::twelveFactsAtMost);
    test(2, "FULL changes nothing", EdgesTest::fullFactChangesNothing);
    test(2, "1 <= d", EdgesTest::downIsAtLeast1);
    test(2, "d <= 8", EdgesTest::downIsAtMost8);
    test(2, "0 <= u", EdgesTest::upIsAtLeast0);
    test(2, "u <= d", EdgesTest::upIsAtMostDown);
    test(2, "BAD changes nothing", EdgesTest::badFactIsNone);
    test(2, "BAD when they are none; FULL", EdgesTest::badFactBeforeFull);
    test(2, "facts that come later stand in no question that was made before",
        EdgesTest::laterFactsStandInNoQuestionMadeBefore);
    test(3, "its odds are others: 1", EdgesTest::oddsAnswer1);
    test(3, "BAD: no fact", EdgesTest::oddsOfNoFact);
    test(3, "BAD: no odds", EdgesTest::oddsThatAreNone);
    test(3, "BAD changes nothing", EdgesTest::badOddsChangeNothing);
    test(3, "odds that are changed are those of all questions",
        EdgesTest::changedOddsAreThoseOfAllQuestions);
  }

  private static void testMadeQuestions() {
    test(4, "with and without of no facts", EdgesTest::setOfNoFacts);
    test(4, "all facts of with hold, and none of without", EdgesTest::setOfAllFacts);
    test(4, "a fact of with that is one of without", EdgesTest::setWithAndWithoutTheSameFact);
    test(4, "BAD when one of their bits is no fact", EdgesTest::setOfABitThatIsNoFact);
    test(4, "BAD when a bit is the next fact", EdgesTest::setOfTheNextFact);
    test(4, "FULL", EdgesTest::setFull);
    test(4, "BAD ..; FULL", EdgesTest::badSetBeforeFull);
    test(5, "BAD: an op that is none", EdgesTest::joinOfOtherOps);
    test(5, "BAD: a is no question", EdgesTest::joinOfNoFirstQuestion);
    test(5, "BAD: b is no question", EdgesTest::joinOfNoSecondQuestion);
    test(5, "3; b is not looked at", EdgesTest::joinNotLooksAtNoSecondQuestion);
    test(5, "a and b are the same question", EdgesTest::joinWithItself);
    test(5, "questions true in all worlds and in none", EdgesTest::joinOfAllAndNone);
    test(5, "FULL", EdgesTest::joinFull);
    test(5, "BAD; FULL", EdgesTest::badJoinBeforeFull);
    test(6, "from least to most", EdgesTest::someFromLeastToMost);
    test(6, "of no facts", EdgesTest::someOfNoFacts);
    test(6, "least above most", EdgesTest::someOfLeastAboveMost);
    test(6, "least below 0", EdgesTest::someOfLeastBelow0);
    test(6, "most above the number of facts", EdgesTest::someOfMostAboveTheirNumber);
    test(6, "of all twelve facts", EdgesTest::someOfAllTwelveFacts);
    test(6, "BAD when a bit is no fact", EdgesTest::someOfABitThatIsNoFact);
    test(6, "FULL", EdgesTest::someFull);
    test(6, "BAD ..; FULL", EdgesTest::badSomeBeforeFull);
  }

  private static void testOdds() {
    test(7, "bits that are no facts do not count", EdgesTest::holdsBitsThatAreNoFacts);
    test(7, "BAD", EdgesTest::holdsNoQuestion);
    test(7, "the fortieth question", EdgesTest::holdsTheLastQuestion);
    test(8, "in lowest terms", EdgesTest::chanceInLowestTerms);
    test(8, "0 as 0 / 1", EdgesTest::chanceOf0);
    test(8, "1 as 1 / 1", EdgesTest::chanceOf1);
    test(8, "the greatest ALL", EdgesTest::chanceOfTheGreatestAll);
    test(8, "BAD: a part that is none", EdgesTest::chanceOfOtherParts);
    test(8, "BAD: no question", EdgesTest::chanceOfNoQuestion);
    test(9, "-1 when there is no such question", EdgesTest::realOfNoQuestion);
    test(9, "0 and 1 as doubles", EdgesTest::realOf0And1);
    test(9, "the least and the greatest", EdgesTest::realOfTheLeastAndTheGreatest);
    test(10, "the rest left off", EdgesTest::givenLeavesTheRestOff);
    test(10, "0 when one is no question", EdgesTest::givenOfNoQuestion);
    test(10, "where b's odds are 0 it can't be", EdgesTest::givenOdds0);
    test(10, "where b's odds are above 0", EdgesTest::givenTheLeastOddsAbove0);
    test(10, "what can't be changes nothing", EdgesTest::givenThatCanNotBeChangesNothing);
    test(10, "1000000 times the sum of weights", EdgesTest::givenAtMostAMillion);
    test(11, "the upper one below 0 when they are less", EdgesTest::influenceBelow0);
    test(11, "neither greater nor less: 0 / 1", EdgesTest::influenceOfNothing);
    test(11, "in lowest terms", EdgesTest::influenceInLowestTerms);
    test(11, "surely holds, surely does not", EdgesTest::influenceWhateverTheFactsOwnOdds);
    test(11, "no odds are others after it", EdgesTest::influenceChangesNoOdds);
    test(11, "0 when one is none: question", EdgesTest::influenceOfNoQuestion);
    test(11, "0 when one is none: fact", EdgesTest::influenceOfNoFact);
    test(11, "0 when part is another", EdgesTest::influenceOfOtherParts);
    test(11, "the greatest product of d", EdgesTest::influenceOfTheGreatestProduct);
  }

  private static void testWorlds() {
    test(12, "whatever its weight", EdgesTest::hangsWhateverTheWeight);
    test(12, "there is a world", EdgesTest::hangsOnOneWorldAlone);
    test(12, "there are as many worlds", EdgesTest::hangsOnBothOfWhichJustOneHolds);
    test(12, "there is no world", EdgesTest::hangsOnNothing);
    test(12, "with or without them alone", EdgesTest::hangsNotOnAFactThatWasNamedInVain);
    test(12, "BAD", EdgesTest::hangsOfNoQuestion);
    test(13, "the least number of equal ones", EdgesTest::likeliestOfEqualWorlds);
    test(13, "NO when it is true in none", EdgesTest::likeliestOfNone);
    test(13, "weights of 0 are weights", EdgesTest::likeliestOfWeights0);
    test(13, "a world without facts", EdgesTest::likeliestWithoutFacts);
    test(13, "BAD", EdgesTest::likeliestOfNoQuestion);
    test(14, "0 when there is none: world", EdgesTest::weightWhereThereIsNoWorld);
    test(14, "0 when there is none: question", EdgesTest::weightWhereThereIsNoQuestion);
    test(14, "a weight of 0", EdgesTest::weightOf0);
    test(14, "the least and the greatest", EdgesTest::leastAndGreatestWeight);
    test(15, "whatever their weights", EdgesTest::worldsWhateverTheirWeights);
    test(15, "in none and in all", EdgesTest::worldsOfNoneAndAll);
    test(15, "BAD", EdgesTest::worldsOfNoQuestion);
    test(16, "all but one world", EdgesTest::sameWhereOneWorldDiffers);
    test(16, "as many worlds, but others", EdgesTest::sameInNumberAlone);
    test(16, "all but worlds of weight 0", EdgesTest::sameButForAWorldOfWeight0);
    test(16, "the same worlds", EdgesTest::sameThoughMadeOtherwise);
    test(16, "BAD", EdgesTest::sameOfNoQuestion);
  }

  private static void testDrawing() {
    test(17, "worlds (0 ..", EdgesTest::sampleOfNoWorlds);
    test(17, "worlds (.. 200)", EdgesTest::sampleOf200Worlds);
    test(17, "BAD: other worlds", EdgesTest::sampleOfTooManyOrTooFewWorlds);
    test(17, "BAD: no question", EdgesTest::sampleOfNoQuestion);
    test(17, "its lowest 48 bits", EdgesTest::sampleOfASeedsLowest48Bits);
    test(17, "modulo 2^48", EdgesTest::sampleModulo2To48);
    test(17, "bits 17 .. 47, less than u", EdgesTest::sampleDrawsBits17To47);
    test(17, "u = 0 and u = d", EdgesTest::sampleOfSureFacts);
    test(17, "with a fact of d = 1 it is drawn, too", EdgesTest::sampleDrawsAFactOfDown1Too);
    test(17, "fact by fact from 0 on", EdgesTest::sampleDrawsFromFact0On);
    test(17, "a world without facts", EdgesTest::sampleWithoutFactsDrawsNothing);
    test(17, "facts that came later", EdgesTest::sampleDrawsFactsThatCameLater);
    test(18, "0 before", EdgesTest::seedBeforeASample);
    test(18, "behind the latest sample()", EdgesTest::seedOfTheLatestSample);
    test(18, "behind a sample() of 0 worlds", EdgesTest::seedOfASampleOfNoWorlds);
    test(18, "a sample() that is BAD", EdgesTest::badSampleLeavesTheSeed);
    test(19, "how many, from 0 to 40", EdgesTest::questionsFrom0To40);
    test(19, "questions that were refused", EdgesTest::refusedQuestionsDoNotCount);
    test(19, "facts are no questions", EdgesTest::factsAreNoQuestions);
  }

  public static void main(String[] args) {
    testFacts();
    testMadeQuestions();
    testOdds();
    testWorlds();
    testDrawing();
    System.out.println(wrong == 0 ? tests + " tests: all answers are as due"
        : wrong + " answers are not as due");
    if (wrong != 0) {
      System.exit(1);
    }
  }
}
