import java.math.BigInteger;
import java.util.ArrayList;
import java.util.List;

/**
 * Long runs of calls, right and wrong ones mixed, each answer against that of a model that does
 * the document's words world by world: questions as formulas, odds as whole fractions.
 */
public final class ModelTest {
  private static final int RUNS = 240;
  private static final int CALLS = 512;
  private static int wrong = 0;

  /** A question as it was asked; with op -1 a set, -2 a some, else a join. */
  private record Question(int op, int a, int b, int c) { }

  private static final class Model {
    final List<int[]> facts = new ArrayList<>();
    final List<Question> questions = new ArrayList<>();
    long seed = 0;

    boolean isFact(int fact) {
      return fact >= 0 && fact < facts.size();
    }

    boolean isQuestion(int question) {
      return question >= 0 && question < questions.size();
    }

    boolean areFacts(int bits) {
      for (int i = 0; i < 32; i++) {
        if ((bits >>> i & 1) == 1 && i >= facts.size()) {
          return false;
        }
      }
      return true;
    }

    static boolean areOdds(int up, int down) {
      return 1 <= down && down <= 8 && 0 <= up && up <= down;
    }

    int allWorlds() {
      return 1 << facts.size();
    }

    /** What the questions up to this one say of a world. */
    boolean isTrue(int last, int world) {
      boolean[] said = new boolean[last + 1];
      for (int i = 0; i <= last; i++) {
        Question q = questions.get(i);
        switch (q.op) {
          case -1 -> said[i] = (world & q.a) == q.a && (world & q.b) == 0;
          case -2 -> {
            int held = Integer.bitCount(world & q.a);
            said[i] = q.b <= held && held <= q.c;
          }
          case 0 -> said[i] = said[q.a] && said[q.b];
          case 1 -> said[i] = said[q.a] || said[q.b];
          case 2 -> said[i] = said[q.a] != said[q.b];
          default -> said[i] = !said[q.a];
        }
      }
      return said[last];
    }

    boolean[] truths(int question) {
      boolean[] truths = new boolean[allWorlds()];
      for (int world = 0; world < truths.length; world++) {
        truths[world] = isTrue(question, world);
      }
      return truths;
    }

    long weight(int world, int leftOut) {
      long weight = 1;
      for (int i = 0; i < facts.size(); i++) {
        int[] odds = facts.get(i);
        if (i != leftOut) {
          weight *= (world >> i & 1) == 1 ? odds[0] : odds[1] - odds[0];
        }
      }
      return weight;
    }

    BigInteger all(int leftOut) {
      BigInteger all = BigInteger.ONE;
      for (int i = 0; i < facts.size(); i++) {
        if (i != leftOut) {
          all = all.multiply(BigInteger.valueOf(facts.get(i)[1]));
        }
      }
      return all;
    }

    BigInteger sum(boolean[] truths) {
      BigInteger sum = BigInteger.ZERO;
      for (int world = 0; world < truths.length; world++) {
        if (truths[world]) {
          sum = sum.add(BigInteger.valueOf(weight(world, -1)));
        }
      }
      return sum;
    }

    static long part(BigInteger upper, BigInteger lower, int part) {
      BigInteger divisor = upper.gcd(lower);
      return (part == 0 ? upper : lower).divide(divisor).longValueExact();
    }

    int keep(Question question) {
      if (questions.size() == 40) {
        return -3;
      }
      questions.add(question);
      return questions.size() - 1;
    }

    int fact(int up, int down) {
      if (!areOdds(up, down)) {
        return -1;
      }
      if (facts.size() == 12) {
        return -3;
      }
      facts.add(new int[] {up, down});
      return facts.size() - 1;
    }

    int odds(int fact, int up, int down) {
      if (!isFact(fact) || !areOdds(up, down)) {
        return -1;
      }
      facts.set(fact, new int[] {up, down});
      return 1;
    }

    int set(int with, int without) {
      return areFacts(with) && areFacts(without) ? keep(new Question(-1, with, without, 0)) : -1;
    }

    int some(int bits, int least, int most) {
      return areFacts(bits) ? keep(new Question(-2, bits, least, most)) : -1;
    }

    int join(int op, int a, int b) {
      boolean fine = 0 <= op && op <= 3 && isQuestion(a) && (op == 3 || isQuestion(b));
      return fine ? keep(new Question(op, a, b, 0)) : -1;
    }

    int holds(int question, int world) {
      if (!isQuestion(question)) {
        return -1;
      }
      return isTrue(question, world & (allWorlds() - 1)) ? 1 : 0;
    }

    long chance(int question, int part) {
      if (!isQuestion(question) || part < 0 || part > 1) {
        return -1;
      }
      return part(sum(truths(question)), all(-1), part);
    }

    double real(int question) {
      if (!isQuestion(question)) {
        return -1;
      }
      return (double) chance(question, 0) / chance(question, 1);
    }

    Long given(int a, int b) {
      if (!isQuestion(a) || !isQuestion(b)) {
        return 0L;
      }
      boolean[] both = truths(a);
      boolean[] second = truths(b);
      for (int world = 0; world < both.length; world++) {
        both[world] &= second[world];
      }
      BigInteger whole = sum(second);
      if (whole.signum() == 0) {
        return null;
      }
      return sum(both).multiply(BigInteger.valueOf(1000000)).divide(whole).longValueExact();
    }

    long influence(int question, int fact, int part) {
      if (!isQuestion(question) || !isFact(fact) || part < 0 || part > 1) {
        return 0;
      }
      boolean[] truths = truths(question);
      BigInteger difference = BigInteger.ZERO;
      for (int world = 0; world < truths.length; world++) {
        if (truths[world]) {
          BigInteger weight = BigInteger.valueOf(weight(world, fact));
          difference = difference.add((world >> fact & 1) == 1 ? weight : weight.negate());
        }
      }
      return part(difference, all(fact), part);
    }

    int hangs(int question) {
      if (!isQuestion(question)) {
        return -1;
      }
      boolean[] truths = truths(question);
      int bits = 0;
      for (int world = 0; world < truths.length; world++) {
        for (int i = 0; i < facts.size(); i++) {
          if (truths[world] != truths[world ^ (1 << i)]) {
            bits |= 1 << i;
          }
        }
      }
      return bits;
    }

    int likeliest(int question) {
      if (!isQuestion(question)) {
        return -1;
      }
      boolean[] truths = truths(question);
      int best = -2;
      for (int world = truths.length - 1; world >= 0; world--) {
        if (truths[world] && (best < 0 || weight(world, -1) >= weight(best, -1))) {
          best = world;
        }
      }
      return best;
    }

    long weight(int question) {
      int world = likeliest(question);
      return world < 0 ? 0 : weight(world, -1);
    }

    int worlds(int question) {
      if (!isQuestion(question)) {
        return -1;
      }
      int count = 0;
      for (boolean truth : truths(question)) {
        count += truth ? 1 : 0;
      }
      return count;
    }

    int same(int a, int b) {
      if (!isQuestion(a) || !isQuestion(b)) {
        return -1;
      }
      return java.util.Arrays.equals(truths(a), truths(b)) ? 1 : 0;
    }

    int sample(int question, long from, int worlds) {
      if (!isQuestion(question) || worlds < 0 || worlds > 200) {
        return -1;
      }
      BigInteger modulus = BigInteger.ONE.shiftLeft(48);
      BigInteger s = BigInteger.valueOf(from).mod(modulus);
      int count = 0;
      for (int i = 0; i < worlds; i++) {
        int world = 0;
        for (int fact = 0; fact < facts.size(); fact++) {
          s = s.multiply(BigInteger.valueOf(25214903917L)).add(BigInteger.valueOf(11)).mod(modulus);
          long r = s.shiftRight(17).longValueExact();
          if (r % facts.get(fact)[1] < facts.get(fact)[0]) {
            world += 1 << fact;
          }
        }
        count += isTrue(question, world) ? 1 : 0;
      }
      seed = s.longValueExact();
      return count;
    }
  }

  /** Numbers that are always the same ones, most of them near what the document allows. */
  private static final class Numbers {
    private static final int[] EDGES = {
      Integer.MIN_VALUE, Integer.MAX_VALUE, -1, -2, 12, 13, 40, 41, 64, 1 << 26, 1 << 31 | 1
    };
    private long state;

    Numbers(long state) {
      this.state = state;
    }

    long any() {
      state = state * 6364136223846793005L + 1442695040888963407L;
      return state ^ (state >>> 29);
    }

    int below(int bound) {
      return (int) Math.floorMod(any() >> 8, (long) bound);
    }

    /** From 0 to below a bound, and now and then beyond. */
    int near(int bound) {
      int kind = below(24);
      if (kind == 0) {
        return EDGES[below(EDGES.length)];
      }
      return kind == 1 ? bound : below(Math.max(bound, 1));
    }
  }

  private static void due(String call, Object got, Object want) {
    if (!String.valueOf(got).equals(String.valueOf(want)) && wrong++ < 40) {
      System.out.println(call + " answered " + got + ", due is " + want);
    }
  }

  private static Long given(OddsSampling x, int a, int b) {
    try {
      return x.given(a, b);
    } catch (ArithmeticException e) {
      return null;
    }
  }

  private static void make(String at, OddsSampling x, Model m, Numbers n, int mostFacts) {
    int bits = n.near(m.allWorlds());
    int more = n.below(3) == 0 ? n.near(m.allWorlds()) : n.near(m.allWorlds()) & ~bits;
    int down = 1 + n.near(8);
    int up = n.near(Math.max(down, 0) + 1);
    int a = n.near(m.questions.size());
    int b = n.near(m.questions.size());
    switch (n.below(5)) {
      case 0 -> {
        if (m.facts.size() < mostFacts || mostFacts == 12) {
          due(at + "fact(" + up + ", " + down + ")", x.fact(up, down), m.fact(up, down));
        }
      }
      case 1 -> {
        int fact = n.near(m.facts.size());
        due(at + "odds(" + fact + ", " + up + ", " + down + ")", x.odds(fact, up, down),
            m.odds(fact, up, down));
      }
      case 2 -> due(at + "set(" + bits + ", " + more + ")", x.set(bits, more), m.set(bits, more));
      case 3 -> {
        int op = n.near(4);
        due(at + "join(" + op + ", " + a + ", " + b + ")", x.join(op, a, b), m.join(op, a, b));
      }
      default -> {
        int least = n.near(5) - 1;
        int most = n.near(9);
        due(at + "some(" + bits + ", " + least + ", " + most + ")", x.some(bits, least, most),
            m.some(bits, least, most));
      }
    }
  }

  private static void ask(String at, OddsSampling x, Model m, Numbers n) {
    int a = n.near(m.questions.size());
    int b = n.near(m.questions.size());
    int part = n.near(2);
    String both = "(" + a + ", " + b + ")";
    switch (n.below(13)) {
      case 0 -> {
        int world = n.below(2) == 0 ? (int) n.any() : n.near(m.allWorlds());
        due(at + "holds(" + a + ", " + world + ")", x.holds(a, world), m.holds(a, world));
      }
      case 1 -> due(at + "chance(" + a + ", " + part + ")", x.chance(a, part), m.chance(a, part));
      case 2 -> due(at + "real(" + a + ")", x.real(a), m.real(a));
      case 3 -> due(at + "given" + both, given(x, a, b), m.given(a, b));
      case 4 -> {
        int fact = n.near(m.facts.size());
        due(at + "influence(" + a + ", " + fact + ", " + part + ")", x.influence(a, fact, part),
            m.influence(a, fact, part));
      }
      case 5 -> due(at + "hangs(" + a + ")", x.hangs(a), m.hangs(a));
      case 6 -> due(at + "likeliest(" + a + ")", x.likeliest(a), m.likeliest(a));
      case 7 -> due(at + "weight(" + a + ")", x.weight(a), m.weight(a));
      case 8 -> due(at + "worlds(" + a + ")", x.worlds(a), m.worlds(a));
      case 9 -> due(at + "same" + both, x.same(a, b), m.same(a, b));
      case 10 -> {
        long seed = n.any();
        int worlds = n.near(201);
        due(at + "sample(" + a + ", " + seed + ", " + worlds + ")", x.sample(a, seed, worlds),
            m.sample(a, seed, worlds));
      }
      case 11 -> due(at + "seed()", x.seed(), m.seed);
      default -> due(at + "questions()", x.questions(), m.questions.size());
    }
  }

  private static void run(int number) {
    Numbers n = new Numbers(number);
    OddsSampling x = new OddsSampling();
    Model m = new Model();
    // Twelve facts make the model slow: most runs have fewer.
    int mostFacts = number % 12 == 0 ? 12 : number % 12 - 1;
    for (int call = 0; call < CALLS; call++) {
      String at = "run " + number + ", call " + call + ": ";
      if (n.below(4) == 0) {
        make(at, x, m, n, mostFacts);
      } else {
        ask(at, x, m, n);
      }
    }
  }

  public static void main(String[] args) {
    for (int number = 0; number < RUNS; number++) {
      run(number);
    }
    System.out.println(wrong == 0 ? "all answers are as due" : wrong + " answers are not as due");
    if (wrong != 0) {
      System.exit(1);
    }
  }
}
