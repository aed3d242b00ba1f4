import java.util.NoSuchElementException;

/** What the tests of single sentences share: a new tree for each, and what is due from it. */
abstract class TreeChecks {
  static final long PUT_LIMIT = 1_099_511_627_776L;
  static final long SLIDE_LIMIT = 2_199_023_255_552L;
  static final long APART = SLIDE_LIMIT + PUT_LIMIT;
  static final long LEAST = Long.MIN_VALUE;
  static final long MOST = Long.MAX_VALUE;
  static final Class<NoSuchElementException> NO_SUCH = NoSuchElementException.class;
  static final Class<IllegalArgumentException> ILLEGAL = IllegalArgumentException.class;

  FairTree tree = new FairTree();
  private final Checks checks = new Checks();
  private String sentence = "";

  /** Each sentence has a tree of its own, as nothing is promised after an object's 512th call. */
  final void start(String name) {
    sentence = name;
    tree = new FairTree();
  }

  /** Order 7, 2, 5, 9: keys 10, 20, 20, 50; weights 4, 1, 2, 3; dues 6, 6, 1, 0. */
  final void startWithFour(String name) {
    start(name);
    tree.put(5, 20, 1, 2);
    tree.put(9, 50, 0, 3);
    tree.put(7, 10, 6, 4);
    tree.put(2, 20, 6, 1);
  }

  /** All 200 numbers, number n at place n: keys 0, 2, 4 .., dues 0, -1, -2 .., weights 1,000. */
  final void startWithAll(String name) {
    start(name);
    for (int n = 199; n >= 0; n--) {
      tree.put(n, 2 * n, -n, 1000);
    }
  }

  /** Item 1 at -2^41 and item 0, which is earlier, at 2^40: no two KEYS can be further apart. */
  final void startFarApart(String name) {
    start(name);
    tree.put(0, PUT_LIMIT, 0, 1);
    tree.slide(PUT_LIMIT);
    tree.put(1, -PUT_LIMIT, 1, 1000);
    tree.slide(-PUT_LIMIT);
  }

  final void due(String call, long due, Checks.Call made) {
    checks.due(sentence + ": " + call, due, made);
  }

  final void dueThrow(String call, Class<? extends RuntimeException> due, Checks.Call made) {
    checks.dueThrow(sentence + ": " + call, due, made);
  }

  final void dueItem(int n, int place, long key, long due, int weight) {
    due("at(" + place + ")", n, () -> tree.at(place));
    due("rank(" + n + ")", place, () -> tree.rank(n));
    due("told(" + n + ", 0)", key, () -> tree.told(n, 0));
    due("told(" + n + ", 1)", due, () -> tree.told(n, 1));
    due("told(" + n + ", 2)", weight, () -> tree.told(n, 2));
  }

  final void dueNotThere(int n) {
    dueThrow("told(" + n + ", 0)", NO_SUCH, () -> tree.told(n, 0));
    dueThrow("told(" + n + ", 1)", NO_SUCH, () -> tree.told(n, 1));
    dueThrow("told(" + n + ", 2)", NO_SUCH, () -> tree.told(n, 2));
    dueThrow("rank(" + n + ")", NO_SUCH, () -> tree.rank(n));
    dueThrow("ahead(" + n + ")", NO_SUCH, () -> tree.ahead(n));
    dueThrow("drop(" + n + ")", NO_SUCH, () -> tree.drop(n));
  }

  /** These and no others are there, in this ORDER. */
  final void dueOrder(int... numbers) {
    due("count(0)", numbers.length, () -> tree.count(0));
    for (int place = 0; place < numbers.length; place++) {
      int k = place;
      due("at(" + k + ")", numbers[k], () -> tree.at(k));
    }
    dueThrow("at(" + numbers.length + ")", NO_SUCH, () -> tree.at(numbers.length));
  }

  /** The four of {@link #startWithFour} are there as they were put, and no others. */
  final void dueTheFour() {
    dueOrder(7, 2, 5, 9);
    dueItem(7, 0, 10, 6, 4);
    dueItem(2, 1, 20, 6, 1);
    dueItem(5, 2, 20, 1, 2);
    dueItem(9, 3, 50, 0, 3);
    due("count(1)", 10, () -> tree.count(1));
    due("count(2)", 3, () -> tree.count(2));
  }

  final void end() {
    checks.end();
  }
}
