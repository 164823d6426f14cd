/**
 * Facts that hold or not, each with its own odds, and questions made of them: how likely each is,
 * exactly, what it hangs on, which world is the likeliest, and what drawn worlds say.
 *
 * <p>A question is kept as its answers in all worlds of twelve facts, whether the facts are there
 * yet or not: an answer is the same with and without a fact that came after the question. The
 * answers stand in blocks of 64 worlds, one bit each: a world's lower six facts choose the bit, its
 * upper six the block.
 */
public final class OddsSampling {
    public static final int BAD = -1;
    public static final int NO = -2;
    public static final int FULL = -3;

    private static final int MOST_FACTS = 12;
    private static final int MOST_QUESTIONS = 40;
    private static final int MOST_DOWN = 8;
    private static final int MOST_DRAWN = 200;

    private static final int HALF_FACTS = 6;
    private static final int BLOCK_WORLDS = 64;
    private static final int BLOCKS = 64;

    private static final int BOTH = 0;
    private static final int EITHER = 1;
    private static final int JUST_ONE = 2;
    private static final int NOT = 3;

    private static final int UPPER = 0;
    private static final int LOWER = 1;
    private static final int NO_FACT = -1;

    private static final long MILLION = 1000000L;
    private static final long SEED_BITS = (1L << 48) - 1;
    private static final long SEED_FACTOR = 25214903917L;
    private static final long SEED_STEP = 11L;
    private static final int SEED_SHIFT = 17;

    /** Euclid's steps on two longs are always fewer. */
    private static final int MOST_STEPS = 100;

    /** For each of the lower six facts: the bits of a block whose worlds are without it. */
    private static final long[] WITHOUT_FACT = {
        0x5555555555555555L,
        0x3333333333333333L,
        0x0F0F0F0F0F0F0F0FL,
        0x00FF00FF00FF00FFL,
        0x0000FFFF0000FFFFL,
        0x00000000FFFFFFFFL
    };

    private final long[] ups;
    private final long[] downs;
    /** The weights of the lower and of the upper six facts: a world's weight is their product. */
    private final long[] lowerWeights;
    private final long[] upperWeights;
    private final long[] answers;
    private int factCount;
    private int questionCount;
    private long lastSeed;

    public OddsSampling() {
        ups = new long[MOST_FACTS];
        downs = new long[MOST_FACTS];
        lowerWeights = new long[BLOCK_WORLDS];
        upperWeights = new long[BLOCKS];
        answers = new long[MOST_QUESTIONS * BLOCKS];
        factCount = 0;
        questionCount = 0;
        lastSeed = 0;
        // A fact that is not there yet never holds: so it changes no weight.
        for (int fact = 0; fact < MOST_FACTS; fact++) {
            put(downs, fact, 1);
        }
        weigh();
    }

    public int fact(int up, int down) {
        if (!areOdds(up, down)) {
            return BAD;
        }
        if (factCount >= MOST_FACTS) {
            return FULL;
        }
        int fact = factCount;
        factCount++;
        putOdds(fact, up, down);
        return fact;
    }

    public int odds(int fact, int up, int down) {
        if (!isFact(fact) || !areOdds(up, down)) {
            return BAD;
        }
        putOdds(fact, up, down);
        return 1;
    }

    public int set(int with, int without) {
        if (!areFacts(with) || !areFacts(without)) {
            return BAD;
        }
        if (isFull()) {
            return FULL;
        }
        for (int block = 0; block < BLOCKS; block++) {
            putNextBlock(block, setBlock(block, with, without));
        }
        return keepNext();
    }

    public int join(int op, int a, int b) {
        if (op < BOTH || op > NOT || !isQuestion(a)) {
            return BAD;
        }
        if (op != NOT && !isQuestion(b)) {
            return BAD;
        }
        if (isFull()) {
            return FULL;
        }
        for (int block = 0; block < BLOCKS; block++) {
            putNextBlock(block, joined(op, blockOf(a, block), blockOf(b, block)));
        }
        return keepNext();
    }

    public int some(int facts, int least, int most) {
        if (!areFacts(facts)) {
            return BAD;
        }
        if (isFull()) {
            return FULL;
        }
        for (int block = 0; block < BLOCKS; block++) {
            putNextBlock(block, someBlock(block, facts, least, most));
        }
        return keepNext();
    }

    public int holds(int question, int world) {
        if (!isQuestion(question)) {
            return BAD;
        }
        return isTrue(question, world & allFacts()) ? 1 : 0;
    }

    public long chance(int question, int part) {
        if (!isQuestion(question) || !isPart(part)) {
            return BAD;
        }
        return lowestPart(sumOfBoth(question, question), allBut(NO_FACT), part);
    }

    public double real(int question) {
        if (!isQuestion(question)) {
            return -1.0;
        }
        // Both are at most 2^36, exact as doubles: in lowest terms the quotient would be the same.
        double upper = (double) sumOfBoth(question, question);
        double lower = (double) allBut(NO_FACT);
        return lower > 0.0 ? upper / lower : -1.0;
    }

    public long given(int a, int b) throws ArithmeticException {
        if (!isQuestion(a) || !isQuestion(b)) {
            return 0;
        }
        long whole = sumOfBoth(b, b);
        if (whole == 0) {
            throw new ArithmeticException("the odds of the given question are 0");
        }
        return MILLION * sumOfBoth(a, b) / whole;
    }

    public long influence(int question, int fact, int part) {
        if (!isQuestion(question) || !isFact(fact) || !isPart(part)) {
            return 0;
        }
        long difference = sumWhenSurely(question, fact, 1) - sumWhenSurely(question, fact, 0);
        return lowestPart(difference, allBut(fact), part);
    }

    public int hangs(int question) {
        if (!isQuestion(question)) {
            return BAD;
        }
        int facts = 0;
        for (int fact = 0; fact < factCount; fact++) {
            if (hangsOn(question, fact)) {
                facts |= 1 << fact;
            }
        }
        return facts;
    }

    public int likeliest(int question) {
        if (!isQuestion(question)) {
            return BAD;
        }
        return likeliestWorld(question);
    }

    public long weight(int question) {
        if (!isQuestion(question)) {
            return 0;
        }
        int world = likeliestWorld(question);
        return world == NO ? 0 : weightOf(world);
    }

    public int worlds(int question) {
        if (!isQuestion(question)) {
            return BAD;
        }
        int count = 0;
        for (int block = 0; block < BLOCKS; block++) {
            count += Long.bitCount(blockOf(question, block));
        }
        // Each fact that is not there yet has doubled the count.
        return count >> (MOST_FACTS - factCount);
    }

    public int same(int a, int b) {
        if (!isQuestion(a) || !isQuestion(b)) {
            return BAD;
        }
        for (int block = 0; block < BLOCKS; block++) {
            if (blockOf(a, block) != blockOf(b, block)) {
                return 0;
            }
        }
        return 1;
    }

    public int sample(int question, long seed, int worlds) {
        if (!isQuestion(question) || worlds < 0 || worlds > MOST_DRAWN) {
            return BAD;
        }
        lastSeed = seed & SEED_BITS;
        int count = 0;
        for (int drawn = 0; drawn < worlds; drawn++) {
            if (isTrue(question, drawWorld())) {
                count++;
            }
        }
        return count;
    }

    public long seed() {
        return lastSeed;
    }

    public int questions() {
        return questionCount;
    }

    // What is asked of arguments.

    private static boolean areOdds(int up, int down) {
        return down >= 1 && down <= MOST_DOWN && up >= 0 && up <= down;
    }

    private static boolean isPart(int part) {
        return part == UPPER || part == LOWER;
    }

    private boolean isFact(int fact) {
        return fact >= 0 && fact < factCount;
    }

    private boolean areFacts(int bits) {
        return (bits & ~allFacts()) == 0;
    }

    private boolean isQuestion(int question) {
        return question >= 0 && question < questionCount;
    }

    private boolean isFull() {
        return questionCount >= MOST_QUESTIONS;
    }

    private int allFacts() {
        return (1 << factCount) - 1;
    }

    // Rows of numbers: no index goes unlooked at.

    private static long at(long[] row, int index) {
        return row != null && index >= 0 && index < row.length ? row[index] : 0;
    }

    private static void put(long[] row, int index, long value) {
        if (row != null && index >= 0 && index < row.length) {
            row[index] = value;
        }
    }

    // A question's answers.

    private long blockOf(int question, int block) {
        if (!isQuestion(question) || block < 0 || block >= BLOCKS) {
            return 0;
        }
        return at(answers, question * BLOCKS + block);
    }

    private boolean isTrue(int question, int world) {
        long block = blockOf(question, world / BLOCK_WORLDS);
        return isBitOn(block, world % BLOCK_WORLDS);
    }

    private static boolean isBitOn(long block, int bit) {
        return ((block >>> bit) & 1) != 0;
    }

    private void putNextBlock(int block, long value) {
        put(answers, questionCount * BLOCKS + block, value);
    }

    private int keepNext() {
        int question = questionCount;
        questionCount++;
        return question;
    }

    private static long setBlock(int block, int with, int without) {
        long value = 0;
        for (int bit = 0; bit < BLOCK_WORLDS; bit++) {
            int world = block * BLOCK_WORLDS + bit;
            if ((world & with) == with && (world & without) == 0) {
                value |= 1L << bit;
            }
        }
        return value;
    }

    private static long someBlock(int block, int facts, int least, int most) {
        long value = 0;
        for (int bit = 0; bit < BLOCK_WORLDS; bit++) {
            int held = Integer.bitCount((block * BLOCK_WORLDS + bit) & facts);
            if (held >= least && held <= most) {
                value |= 1L << bit;
            }
        }
        return value;
    }

    private static long joined(int op, long a, long b) {
        switch (op) {
            case BOTH:
                return a & b;
            case EITHER:
                return a | b;
            case JUST_ONE:
                return a ^ b;
            default:
                return ~a;
        }
    }

    private boolean hangsOn(int question, int fact) {
        for (int block = 0; block < BLOCKS; block++) {
            if (changesWith(question, block, fact)) {
                return true;
            }
        }
        return false;
    }

    /** Whether a world of this block has another answer when the fact alone is turned round. */
    private boolean changesWith(int question, int block, int fact) {
        long here = blockOf(question, block);
        if (fact < HALF_FACTS) {
            long turned = here >>> (1 << fact);
            return ((here ^ turned) & at(WITHOUT_FACT, fact)) != 0;
        }
        return here != blockOf(question, block ^ (1 << (fact - HALF_FACTS)));
    }

    // Odds and weights.

    private void putOdds(int fact, long up, long down) {
        put(ups, fact, up);
        put(downs, fact, down);
        weigh();
    }

    private void weigh() {
        weighHalf(lowerWeights, 0);
        weighHalf(upperWeights, HALF_FACTS);
    }

    private void weighHalf(long[] weights, int first) {
        put(weights, 0, 1);
        for (int i = 0; i < HALF_FACTS; i++) {
            long up = at(ups, first + i);
            long rest = at(downs, first + i) - up;
            int size = 1 << i;
            for (int world = 0; world < size; world++) {
                long weight = at(weights, world);
                put(weights, world, weight * rest);
                put(weights, world + size, weight * up);
            }
        }
    }

    private long weightOf(int world) {
        return at(lowerWeights, world % BLOCK_WORLDS) * at(upperWeights, world / BLOCK_WORLDS);
    }

    private long sumOfBoth(int a, int b) {
        long sum = 0;
        for (int block = 0; block < BLOCKS; block++) {
            long factor = at(upperWeights, block);
            if (factor != 0) {
                sum += factor * lowerSum(blockOf(a, block) & blockOf(b, block));
            }
        }
        return sum;
    }

    private long lowerSum(long block) {
        long sum = 0;
        for (int bit = 0; bit < BLOCK_WORLDS; bit++) {
            if (isBitOn(block, bit)) {
                sum += at(lowerWeights, bit);
            }
        }
        return sum;
    }

    private long sumWhenSurely(int question, int fact, int up) {
        long oldUp = at(ups, fact);
        long oldDown = at(downs, fact);
        putOdds(fact, up, 1);
        long sum = sumOfBoth(question, question);
        putOdds(fact, oldUp, oldDown);
        return sum;
    }

    /** The product of all d but that of one fact, or of all when NO_FACT is left out. */
    private long allBut(int leftOut) {
        long product = 1;
        for (int fact = 0; fact < factCount; fact++) {
            if (fact != leftOut) {
                product *= at(downs, fact);
            }
        }
        return product;
    }

    private int likeliestWorld(int question) {
        int likeliest = NO;
        long most = -1;
        int count = 1 << factCount;
        for (int world = 0; world < count; world++) {
            if (isTrue(question, world) && weightOf(world) > most) {
                likeliest = world;
                most = weightOf(world);
            }
        }
        return likeliest;
    }

    private static long lowestPart(long upper, long lower, int part) {
        long divisor = greatestDivisor(upper, lower);
        if (divisor == 0) {
            return 0;
        }
        return (part == UPPER ? upper : lower) / divisor;
    }

    private static long greatestDivisor(long a, long b) {
        long larger = a < 0 ? -a : a;
        long smaller = b < 0 ? -b : b;
        for (int step = 0; step < MOST_STEPS && smaller != 0; step++) {
            long rest = larger % smaller;
            larger = smaller;
            smaller = rest;
        }
        return larger;
    }

    // Drawing.

    private int drawWorld() {
        int world = 0;
        for (int fact = 0; fact < factCount; fact++) {
            long drawn = draw();
            long down = at(downs, fact);
            if (down > 0 && drawn % down < at(ups, fact)) {
                world |= 1 << fact;
            }
        }
        return world;
    }

    private long draw() {
        lastSeed = (lastSeed * SEED_FACTOR + SEED_STEP) & SEED_BITS;
        return lastSeed >>> SEED_SHIFT;
    }
}
