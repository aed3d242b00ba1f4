/** One method for each sentence of the document's Terms, at the limits that it names. */
public final class TermsTest extends TreeChecks {
  private static final int[] NO_NUMBERS = {
    -1, 200, 201, -199, -200, 256, 65_536, Integer.MIN_VALUE, Integer.MAX_VALUE
  };

  public static void main(String[] args) {
    TermsTest test = new TermsTest();
    test.numbersFrom0To199();
    test.eachThereOrNot();
    test.noneAtFirst();
    test.keyFromTheLeastToTheMost();
    test.keyLimitOnlyWhenPut();
    test.keyLimitIsNotSlidAlong();
    test.dueIsAnyLong();
    test.weightFrom1To1000();
    test.orderByKeys();
    test.orderOfEqualKeysByNumbers();
    test.orderOfEqualKeysAfterSlide();
    test.earliestHasTheLeastDue();
    test.earliestOfSeveralHasTheLeastNumber();
    test.duesAreComparedWithoutWrapAround();
    test.fairUpToTheShareItself();
    test.fairWithKeysBelowZero();
    test.fairByWeights();
    test.fairOfEqualKeys();
    test.fairBeyondAnInt();
    test.fairIsExactAtTheLimits();
    test.end();
  }

  private void numbersFrom0To199() {
    start("ITEMS have numbers 0 .. 199");
    due("put(0)", 1, () -> tree.put(0, 5, 6, 7));
    due("put(199)", 2, () -> tree.put(199, 4, 3, 2));
    dueItem(199, 0, 4, 3, 2);
    dueItem(0, 1, 5, 6, 7);
    for (int n : NO_NUMBERS) {
      dueThrow("put(" + n + ")", ILLEGAL, () -> tree.put(n, 5, 6, 7));
    }
    dueOrder(199, 0);
    due("drop(0)", 7, () -> tree.drop(0));
    due("drop(199)", 2, () -> tree.drop(199));
  }

  private void eachThereOrNot() {
    startWithAll("each there or not");
    for (int n = 1; n < 200; n += 2) {
      int number = n;
      due("drop(" + n + ")", 1000, () -> tree.drop(number));
    }
    due("count(0)", 100, () -> tree.count(0));
    for (int n = 0; n < 200; n += 2) {
      int number = n;
      due("told(" + n + ", 0)", 2 * n, () -> tree.told(number, 0));
    }
    for (int n = 1; n < 200; n += 2) {
      int number = n;
      dueThrow("told(" + n + ", 0)", NO_SUCH, () -> tree.told(number, 0));
    }
  }

  private void noneAtFirst() {
    start("none at first");
    dueOrder();
    due("weight(most)", 0, () -> tree.weight(MOST));
    for (int n : new int[] {0, 1, 100, 198, 199}) {
      dueNotThere(n);
    }
  }

  private void keyFromTheLeastToTheMost() {
    start("a KEY, from -2^40 to 2^40");
    due("put(1, -2^40)", 1, () -> tree.put(1, -PUT_LIMIT, 0, 1));
    due("put(2, 2^40)", 2, () -> tree.put(2, PUT_LIMIT, 0, 1));
    due("put(3, -2^40 + 1)", 3, () -> tree.put(3, -PUT_LIMIT + 1, 0, 1));
    due("put(4, 2^40 - 1)", 4, () -> tree.put(4, PUT_LIMIT - 1, 0, 1));
    long[] beyond = {
      PUT_LIMIT + 1, -PUT_LIMIT - 1, SLIDE_LIMIT, -SLIDE_LIMIT, 1L << 62, -(1L << 62), MOST, LEAST
    };
    for (long key : beyond) {
      dueThrow("put(5, " + key + ")", ILLEGAL, () -> tree.put(5, key, 0, 1));
    }
    dueOrder(1, 3, 4, 2);
    due("told(1, 0)", -PUT_LIMIT, () -> tree.told(1, 0));
    due("told(2, 0)", PUT_LIMIT, () -> tree.told(2, 0));
  }

  private void keyLimitOnlyWhenPut() {
    start("a KEY, from -2^40 to 2^40 when it is put");
    tree.put(1, PUT_LIMIT, 5, 6);
    due("slide(1)", PUT_LIMIT + 1, () -> tree.slide(1));
    due("told(1, 0) above 2^40", PUT_LIMIT + 1, () -> tree.told(1, 0));
    due("at(0)", 1, () -> tree.at(0));
    dueThrow("put(1) with the KEY that it has", ILLEGAL, () -> tree.put(1, PUT_LIMIT + 1, 7, 8));
    dueItem(1, 0, PUT_LIMIT + 1, 5, 6);
    due("slide(-2^41 - 2)", -PUT_LIMIT - 1, () -> tree.slide(-SLIDE_LIMIT - 2));
    dueThrow("put(1) with the KEY that it has", ILLEGAL, () -> tree.put(1, -PUT_LIMIT - 1, 7, 8));
    dueItem(1, 0, -PUT_LIMIT - 1, 5, 6);
  }

  private void keyLimitIsNotSlidAlong() {
    start("from -2^40 to 2^40 when it is put, after slides");
    tree.put(1, 0, 0, 1);
    due("slide(2^40)", PUT_LIMIT, () -> tree.slide(PUT_LIMIT));
    due("put(2, -2^40)", 2, () -> tree.put(2, -PUT_LIMIT, 0, 1));
    due("put(3, 2^40)", 3, () -> tree.put(3, PUT_LIMIT, 0, 1));
    dueThrow("put(4, 2^40 + 1)", ILLEGAL, () -> tree.put(4, PUT_LIMIT + 1, 0, 1));
    dueThrow("put(4, -2^40 - 1)", ILLEGAL, () -> tree.put(4, -PUT_LIMIT - 1, 0, 1));
    dueOrder(2, 1, 3);
    due("told(2, 0)", -PUT_LIMIT, () -> tree.told(2, 0));
    due("told(3, 0)", PUT_LIMIT, () -> tree.told(3, 0));
  }

  private void dueIsAnyLong() {
    start("a DUE, a long");
    long[] dues = {LEAST, LEAST + 1, -1, 0, 1, 1L << 32, MOST - 1, MOST};
    for (int n = 0; n < dues.length; n++) {
      int number = n;
      due("put(" + n + ", 0, " + dues[n] + ")", n + 1, () -> tree.put(number, 0, dues[number], 1));
    }
    for (int n = 0; n < dues.length; n++) {
      int number = n;
      due("told(" + n + ", 1)", dues[n], () -> tree.told(number, 1));
    }
    for (int n = 0; n < dues.length; n++) {
      int number = n;
      due("earliest(0)", n, () -> tree.earliest(0));
      tree.drop(number);
    }
  }

  private void weightFrom1To1000() {
    start("a WEIGHT, 1 .. 1,000");
    due("put weight 1", 1, () -> tree.put(1, 0, 0, 1));
    due("put weight 1000", 2, () -> tree.put(2, 0, 0, 1000));
    int[] beyond = {
      0, -1, 1001, -1000, 65_537, 1 << 24, Integer.MIN_VALUE, Integer.MIN_VALUE + 1,
      Integer.MAX_VALUE
    };
    for (int weight : beyond) {
      dueThrow("put weight " + weight, ILLEGAL, () -> tree.put(3, 0, 0, weight));
      dueThrow("put weight " + weight, ILLEGAL, () -> tree.put(1, 0, 0, weight));
    }
    dueItem(1, 0, 0, 0, 1);
    dueItem(2, 1, 0, 0, 1000);
    dueOrder(1, 2);
    due("count(1)", 1001, () -> tree.count(1));
  }

  /** Every row of four KEYS out of seven, so also those that are equal, falling or below zero. */
  private void orderByKeys() {
    long[] keys = {-PUT_LIMIT, -1, 0, 1, 1L << 31, 1L << 32, PUT_LIMIT};
    for (int kind = 0; kind < 7 * 7 * 7 * 7; kind++) {
      start("ORDER: by KEYS");
      long[] drawn = {keys[kind % 7], keys[kind / 7 % 7], keys[kind / 49 % 7], keys[kind / 343]};
      for (int n = 0; n < 4; n++) {
        tree.put(n, drawn[n], 0, 1);
      }
      for (int place = 0; place < 3; place++) {
        dueInOrder(drawn, tree.at(place), tree.at(place + 1));
      }
    }
  }

  private void dueInOrder(long[] keys, int n, int next) {
    boolean inOrder = keys[n] < keys[next] || (keys[n] == keys[next] && n < next);
    due(n + " before " + next + " with " + keys[n] + ", " + keys[next], 1, () -> inOrder ? 1 : 0);
  }

  private void orderOfEqualKeysByNumbers() {
    start("ORDER: by KEYS, equal ones by numbers");
    for (int n : new int[] {100, 199, 0, 101, 99, 1}) {
      tree.put(n, -7, n % 3, 1 + n);
    }
    dueOrder(0, 1, 99, 100, 101, 199);
    tree.put(99, -6, 0, 1);
    dueOrder(0, 1, 100, 101, 199, 99);
    tree.put(99, -8, 0, 1);
    dueOrder(99, 0, 1, 100, 101, 199);
    tree.put(99, -7, 0, 1);
    dueOrder(0, 1, 99, 100, 101, 199);
  }

  private void orderOfEqualKeysAfterSlide() {
    start("ORDER: equal ones by numbers, equal after a slide");
    tree.put(9, 10, 0, 1);
    tree.put(3, 11, 0, 1);
    tree.slide(5);
    tree.put(5, 15, 0, 1);
    tree.put(12, 15, 0, 1);
    tree.put(1, 16, 0, 1);
    tree.put(4, 16, 0, 1);
    dueOrder(5, 9, 12, 1, 3, 4);
    due("drop(9)", 1, () -> tree.drop(9));
    dueOrder(5, 12, 1, 3, 4);
  }

  private void earliestHasTheLeastDue() {
    start("EARLIEST of some ITEMS: the one with the least DUE");
    tree.put(1, 5, 3, 1);
    tree.put(2, 4, 2, 1);
    tree.put(3, 3, -1, 1);
    tree.put(4, 2, 0, 1);
    tree.put(5, 1, 1, 1);
    dueEarliestOfAll(3);
    tree.put(3, 3, 4, 1);
    dueEarliestOfAll(4);
  }

  private void earliestOfSeveralHasTheLeastNumber() {
    start("EARLIEST: of several the one with the least number");
    tree.put(9, -3, 7, 1);
    tree.put(8, -2, 7, 1);
    tree.put(7, -1, 8, 1);
    tree.put(100, 1000, 8, 1);
    dueEarliestOfAll(8);
    tree.put(2, -1, 7, 1);
    dueEarliestOfAll(2);
    tree.put(2, -4, 7, 1);
    dueEarliestOfAll(2);
    tree.put(0, -4, 7, 1);
    dueEarliestOfAll(0);
    tree.put(0, -4, 8, 1);
    dueEarliestOfAll(2);
  }

  private void duesAreComparedWithoutWrapAround() {
    start("the least DUE, far apart");
    tree.put(1, 0, MOST, 1);
    tree.put(2, 0, LEAST, 1);
    dueEarliestOfAll(2);
    tree.put(1, 0, LEAST, 1);
    tree.put(2, 0, MOST, 1);
    dueEarliestOfAll(1);
    tree.put(3, 0, -1, 1);
    tree.put(1, 0, MOST, 1);
    dueEarliestOfAll(3);
    tree.put(3, 0, 1, 1);
    tree.put(2, 0, LEAST + 1, 1);
    dueEarliestOfAll(2);
  }

  private void dueEarliestOfAll(int n) {
    due("earliest(most)", n, () -> tree.earliest(MOST));
    due("between(least, most)", n, () -> tree.between(LEAST, MOST));
    due("pick()", n, () -> tree.pick());
  }

  private void fairUpToTheShareItself() {
    start("FAIR: not above");
    tree.put(1, 0, 3, 1);
    tree.put(2, 10, 1, 1);
    tree.put(3, 5, 2, 1);
    due("count(2): 5 * 3 is 15", 2, () -> tree.count(2));
    due("pick(): 5 * 3 is 15", 3, () -> tree.pick());
    tree.put(3, 6, 2, 1);
    due("count(2): 6 * 3 is above 16", 1, () -> tree.count(2));
    due("pick(): 6 * 3 is above 16", 1, () -> tree.pick());
    tree.put(3, 4, 2, 1);
    due("count(2): 4 * 3 is below 14", 2, () -> tree.count(2));
    tree.put(2, 11, 1, 1);
    tree.put(3, 6, 2, 1);
    due("count(2): 6 * 3 is above 17", 1, () -> tree.count(2));
    tree.put(2, 12, 1, 1);
    due("count(2): 6 * 3 is 18", 2, () -> tree.count(2));
  }

  private void fairWithKeysBelowZero() {
    start("FAIR with KEYS below zero");
    tree.put(1, -1, 1, 1);
    tree.put(2, -2, 2, 1);
    due("count(2): -1 * 2 is above -3", 1, () -> tree.count(2));
    due("pick()", 2, () -> tree.pick());
    tree.put(3, 1, 0, 2);
    due("count(2): 1 * 4 is above -1, -1 * 4 is not", 2, () -> tree.count(2));
    due("pick()", 1, () -> tree.pick());
    tree.put(3, 0, 0, 2);
    due("count(2): 0 is above -3, -1 * 4 is not", 2, () -> tree.count(2));
  }

  private void fairByWeights() {
    start("FAIR: all WEIGHTS together, each ITEM's KEY times its WEIGHT");
    tree.put(1, 0, 5, 1000);
    tree.put(2, 1, 4, 1);
    tree.put(3, 1000, 3, 1);
    due("count(2): 1 * 1002 is above 1001", 1, () -> tree.count(2));
    tree.put(3, 1001, 3, 1);
    due("count(2): 1 * 1002 is 1002", 2, () -> tree.count(2));
    tree.put(1, 0, 5, 1);
    tree.put(3, 3, 3, 1000);
    due("count(2): 3 * 1002 is above 3001", 2, () -> tree.count(2));
    due("pick()", 2, () -> tree.pick());
  }

  private void fairOfEqualKeys() {
    for (long key : new long[] {0, 1, -1, PUT_LIMIT, -PUT_LIMIT}) {
      start("FAIR with equal KEYS of " + key);
      for (int n = 0; n < 200; n++) {
        tree.put(n, key, -n, 1000 - n);
      }
      due("count(2)", 200, () -> tree.count(2));
      due("pick()", 199, () -> tree.pick());
      due("ahead(0)", 0, () -> tree.ahead(0));
      due("slide(key)", 2 * key, () -> tree.slide(key));
      due("count(2) after slide(key)", 200, () -> tree.count(2));
      due("ahead(199) after slide(key)", 0, () -> tree.ahead(199));
    }
  }

  /** Sums and products that an int could not hold, on either side of zero. */
  private void fairBeyondAnInt() {
    for (int shift = 20; shift <= 40; shift++) {
      long key = 1L << shift;
      start("FAIR with KEYS of 0 and " + key);
      tree.put(1, 0, 0, 1000);
      tree.put(2, key, 0, 1000);
      tree.put(3, key / 2, 0, 1000);
      due("count(2): 3 has just its share", 2, () -> tree.count(2));
      due("ahead(1)", -key * 1500, () -> tree.ahead(1));
      due("ahead(2)", key * 1500, () -> tree.ahead(2));
      due("ahead(3)", 0, () -> tree.ahead(3));
      tree.put(3, key / 2 + 1, 0, 1000);
      due("count(2): 3 is above its share", 1, () -> tree.count(2));
      tree.slide(-key - 1);
      due("count(2) below zero", 1, () -> tree.count(2));
      due("ahead(3) below zero", 2000, () -> tree.ahead(3));
    }
  }

  /** Products near 2^59: 1 too many in them is less than a double or an int could tell. */
  private void fairIsExactAtTheLimits() {
    start("FAIR at the limits");
    for (int n = 0; n < 200; n++) {
      tree.put(n, PUT_LIMIT, 0, 1000);
    }
    tree.put(0, PUT_LIMIT - 1, 1, 1);
    tree.slide(PUT_LIMIT);
    due("count(2): all but 0 are 1 above", 1, () -> tree.count(2));
    due("ahead(1)", 1, () -> tree.ahead(1));
    due("ahead(0)", -199_000, () -> tree.ahead(0));
    tree.slide(-2 * SLIDE_LIMIT + 1);
    due("count(2): all but 0 are 1 above, below zero", 1, () -> tree.count(2));
    due("ahead(1) below zero", 1, () -> tree.ahead(1));
    due("ahead(0) below zero", -199_000, () -> tree.ahead(0));
  }
}
