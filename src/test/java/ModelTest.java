import java.util.Random;

/** Runs of calls, drawn from fixed seeds, answered by FairTree and by the plain model alike. */
public final class ModelTest {
  /** What an object answers after so many calls is free. */
  private static final int CALLS = 512;
  private static final int RUNS = 1600;
  private static final long PUT_LIMIT = 1L << 40;
  private static final long SLIDE_LIMIT = 1L << 41;

  private final Checks checks = new Checks();
  private final Random random;
  private final FairTree tree = new FairTree();
  private final PlainModel model = new PlainModel();
  private final String name;
  private final int numbers;
  private final long keySpan;
  private final int dueSpan;
  private int calls = 0;

  /** Small spans make equal keys and dues common, wide ones reach the limits of the document. */
  private ModelTest(long seed, int numbers, long keySpan, int dueSpan) {
    this.random = new Random(seed);
    this.name = "seed " + seed;
    this.numbers = numbers;
    this.keySpan = keySpan;
    this.dueSpan = dueSpan;
  }

  public static void main(String[] args) {
    int[] numbers = {3, 10, 60, 200};
    long[] keySpans = {2, 12, 1000, PUT_LIMIT};
    int[] dueSpans = {2, 1_000_000};
    boolean asDue = true;
    for (long seed = 1; seed <= RUNS && asDue; seed++) {
      int kind = (int) seed;
      asDue =
          new ModelTest(seed, numbers[kind % 4], keySpans[kind / 4 % 4], dueSpans[kind / 16 % 2])
              .run();
    }
    System.out.println(asDue ? "all runs are as due" : "a run is not as due");
    if (!asDue) {
      System.exit(1);
    }
  }

  private boolean run() {
    int fill = random.nextInt(CALLS);
    while (calls < CALLS && checks.allAsDue()) {
      if (calls < fill && random.nextInt(6) > 0) {
        put();
      } else if (random.nextInt(4) == 0) {
        change();
      } else {
        ask();
      }
    }
    return checks.allAsDue();
  }

  private void change() {
    switch (random.nextInt(8)) {
      case 0, 1, 2 -> put();
      case 3, 4 -> drop();
      case 5, 6 -> slide();
      default -> cut();
    }
  }

  private void put() {
    int n = number();
    long key = random.nextInt(30) == 0 ? edge() : key();
    long due = due();
    int weight = random.nextInt(30) == 0 ? random.nextInt(2) * 1001 : weight();
    same("put(" + n + ", " + key + ", " + due + ", " + weight + ")",
        () -> model.put(n, key, due, weight), () -> tree.put(n, key, due, weight));
  }

  private void drop() {
    int n = number();
    same("drop(" + n + ")", () -> model.drop(n), () -> tree.drop(n));
  }

  private void slide() {
    long by = random.nextInt(4) == 0 ? edge() : key();
    same("slide(" + by + ")", () -> model.slide(by), () -> tree.slide(by));
  }

  private void cut() {
    long from = key();
    long to = random.nextInt(3) == 0 ? key() : from + random.nextInt(3);
    same("cut(" + from + ", " + to + ")", () -> model.cut(from, to), () -> tree.cut(from, to));
  }

  private void ask() {
    if (random.nextInt(2) == 0) {
      askOfOne();
    } else {
      askOfAll();
    }
  }

  private void askOfOne() {
    int n = number();
    int what = random.nextInt(5) - 1;
    switch (random.nextInt(5)) {
      case 0 -> same("told(" + n + ", " + what + ")",
          () -> model.told(n, what), () -> tree.told(n, what));
      case 1 -> same("at(" + n + ")", () -> model.at(n), () -> tree.at(n));
      case 2 -> same("rank(" + n + ")", () -> model.rank(n), () -> tree.rank(n));
      case 3 -> same("ahead(" + n + ")", () -> model.ahead(n), () -> tree.ahead(n));
      default -> same("count(" + what + ")", () -> model.count(what), () -> tree.count(what));
    }
  }

  private void askOfAll() {
    long from = random.nextInt(20) == 0 ? edge() : key();
    long to = random.nextInt(20) == 0 ? edge() : key();
    switch (random.nextInt(6)) {
      case 0 -> same("earliest(" + to + ")", () -> model.earliest(to), () -> tree.earliest(to));
      case 1 -> same("between(" + from + ", " + to + ")",
          () -> model.between(from, to), () -> tree.between(from, to));
      case 2 -> same("weight(" + to + ")", () -> model.weight(to), () -> tree.weight(to));
      case 3 -> same("pick()", model::pick, tree::pick);
      case 4 -> same("half()", model::half, tree::half);
      default -> same("nearest()", model::nearest, tree::nearest);
    }
  }

  private void same(String call, Checks.Call due, Checks.Call got) {
    calls++;
    checks.same(name + ": " + call, Checks.outcome(due), Checks.outcome(got));
  }

  private int number() {
    return random.nextInt(numbers + 2) - 1;
  }

  private long key() {
    return (long) ((random.nextDouble() * 2 - 1) * keySpan);
  }

  private long due() {
    return random.nextInt(20) == 0 ? edge() : random.nextInt(dueSpan);
  }

  private int weight() {
    return random.nextInt(4) == 0 ? 1 + random.nextInt(3) : 1 + random.nextInt(1000);
  }

  private long edge() {
    long[] edges = {PUT_LIMIT, SLIDE_LIMIT, SLIDE_LIMIT + PUT_LIMIT, Long.MAX_VALUE};
    long edge = edges[random.nextInt(edges.length)] - 1 + random.nextInt(3);
    return random.nextBoolean() ? edge : -edge;
  }
}
