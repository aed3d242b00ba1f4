/** The edges of questions on WEIGHTS: promises 11 to 13 and 16. */
public final class WeightEdgesTest extends TreeChecks {
  public static void main(String[] args) {
    WeightEdgesTest test = new WeightEdgesTest();
    test.aheadOfOne();
    test.aheadOfNoMoreThanItsShare();
    test.aheadFarApart();
    test.weightNotAbove();
    test.weightAtTheLimits();
    test.halfIsAtLeastHalf();
    test.halfOfAnOddWhole();
    test.halfOfOne();
    test.halfOfEqualKeys();
    test.halfOfAll();
    test.halfHeavyFirstOrLast();
    test.countOfItems();
    test.countOfWeights();
    test.countOfFairOnes();
    test.countElse();
    test.end();
  }

  private void aheadOfOne() {
    for (long key : new long[] {-PUT_LIMIT, -1, 0, 1, PUT_LIMIT}) {
      start("11: How much more than its share, one at " + key);
      tree.put(77, key, 0, 1000);
      due("ahead(77)", 0, () -> tree.ahead(77));
      tree.slide(key);
      due("ahead(77) after slide(key)", 0, () -> tree.ahead(77));
    }
  }

  private void aheadOfNoMoreThanItsShare() {
    startWithFour("11: KEY times all WEIGHTS less the sum");
    due("ahead(7), less than its share", -150, () -> tree.ahead(7));
    due("ahead(5), less than its share", -50, () -> tree.ahead(5));
    due("ahead(9), more than its share", 250, () -> tree.ahead(9));
    tree.put(5, 25, 1, 2);
    tree.put(9, 46, 0, 5);
    due("ahead(2), another KEY and WEIGHT", 20 * 12 - 340, () -> tree.ahead(2));
    tree.put(9, 25, 0, 5);
    tree.put(7, 26, 0, 4);
    tree.put(2, 21, 0, 1);
    due("ahead(5), just its share", 0, () -> tree.ahead(5));
    tree.drop(2);
    due("ahead(5) after a drop", -4, () -> tree.ahead(5));
    tree.cut(26, 26);
    due("ahead(5) after a cut", 0, () -> tree.ahead(5));
  }

  private void aheadFarApart() {
    startFarApart("11: KEY times all WEIGHTS less the sum, far apart");
    due("ahead(0)", APART * 1000, () -> tree.ahead(0));
    due("ahead(1)", -APART, () -> tree.ahead(1));
    for (int n = 2; n < 200; n++) {
      tree.put(n, -PUT_LIMIT, 0, 1000);
    }
    due("ahead(0)", APART * 1000 + SLIDE_LIMIT * 198_000, () -> tree.ahead(0));
    due("ahead(1)", -APART - PUT_LIMIT * 198_000, () -> tree.ahead(1));
    due("slide(2^40)", -PUT_LIMIT, () -> tree.slide(PUT_LIMIT));
    due("ahead(0) slid", APART * 1000 + SLIDE_LIMIT * 198_000, () -> tree.ahead(0));
    due("ahead(1) slid", -APART - PUT_LIMIT * 198_000, () -> tree.ahead(1));
  }

  private void weightNotAbove() {
    startWithFour("12: those whose KEY is not above key, together");
    due("weight(9)", 0, () -> tree.weight(9));
    due("weight(10)", 4, () -> tree.weight(10));
    due("weight(11)", 4, () -> tree.weight(11));
    due("weight(19)", 4, () -> tree.weight(19));
    due("weight(20)", 7, () -> tree.weight(20));
    due("weight(49)", 7, () -> tree.weight(49));
    due("weight(50)", 10, () -> tree.weight(50));
    due("weight(51)", 10, () -> tree.weight(51));
    tree.slide(-60);
    due("weight(-51) after a slide", 0, () -> tree.weight(-51));
    due("weight(-50) after a slide", 4, () -> tree.weight(-50));
    tree.drop(7);
    due("weight(-50) after a drop", 0, () -> tree.weight(-50));
    dueTheRestOfTheWeights();
  }

  private void dueTheRestOfTheWeights() {
    tree.put(5, -40, 0, 9);
    due("weight(-40) after a put in place", 10, () -> tree.weight(-40));
    tree.cut(-40, -40);
    due("weight(-40) after a cut", 0, () -> tree.weight(-40));
    due("weight(-10) after a cut", 3, () -> tree.weight(-10));
  }

  private void weightAtTheLimits() {
    startFarApart("12: not above key, at the limits");
    due("weight(least)", 0, () -> tree.weight(LEAST));
    due("weight(-2^41 - 1)", 0, () -> tree.weight(-SLIDE_LIMIT - 1));
    due("weight(-2^41)", 1000, () -> tree.weight(-SLIDE_LIMIT));
    due("weight(2^40 - 1)", 1000, () -> tree.weight(PUT_LIMIT - 1));
    due("weight(2^40)", 1001, () -> tree.weight(PUT_LIMIT));
    due("weight(most)", 1001, () -> tree.weight(MOST));
    startWithAll("12: not above key, all there");
    due("weight(397)", 199_000, () -> tree.weight(397));
    due("weight(398)", 200_000, () -> tree.weight(398));
  }

  private void halfIsAtLeastHalf() {
    start("13: at least half of all");
    tree.put(1, 10, 0, 5);
    tree.put(2, 20, 0, 5);
    due("half(): 5 of 10", 1, () -> tree.half());
    tree.put(2, 20, 0, 6);
    due("half(): 5 of 11", 2, () -> tree.half());
    tree.put(2, 20, 0, 4);
    due("half(): 5 of 9", 1, () -> tree.half());
    tree.put(3, 30, 0, 9);
    due("half(): 9 of 18", 2, () -> tree.half());
    tree.put(3, 30, 0, 10);
    due("half(): 9 of 19", 3, () -> tree.half());
    tree.slide(-100);
    due("half() after a slide", 3, () -> tree.half());
    tree.drop(3);
    due("half() after a drop", 1, () -> tree.half());
  }

  private void halfOfAnOddWhole() {
    start("13: at least half of an odd whole");
    tree.put(1, 1, 0, 1);
    tree.put(2, 2, 0, 1);
    tree.put(3, 3, 0, 1);
    due("half(): 1 of 3 is not, 2 of 3 is", 2, () -> tree.half());
    tree.drop(3);
    tree.put(2, 2, 0, 2);
    due("half(): 1 of 3 is not", 2, () -> tree.half());
  }

  private void halfOfOne() {
    start("13: half of one");
    dueThrow("half() of none", NO_SUCH, () -> tree.half());
    tree.put(8, 5, 0, 1);
    due("half(): WEIGHT 1", 8, () -> tree.half());
    tree.put(8, -5, 0, 1000);
    due("half(): WEIGHT 1,000", 8, () -> tree.half());
    tree.drop(8);
    dueThrow("half() of none left", NO_SUCH, () -> tree.half());
  }

  private void halfOfEqualKeys() {
    start("13: The first ITEM in ORDER, equal KEYS");
    for (int n : new int[] {9, 3, 6, 0}) {
      tree.put(n, 7, -n, 10);
    }
    due("half(): 0 and 3 are half", 3, () -> tree.half());
    tree.put(0, 7, 0, 9);
    due("half(): 0 and 3 are not", 6, () -> tree.half());
    tree.put(9, 6, 0, 10);
    due("half(): 9 and 0 are not", 3, () -> tree.half());
  }

  private void halfOfAll() {
    startWithAll("13: half of all there");
    due("half(): 100 of 200", 99, () -> tree.half());
    tree.put(199, 398, 0, 999);
    due("half(): 100 are more than half", 99, () -> tree.half());
    tree.put(199, 398, 0, 1000);
    tree.put(0, 0, 0, 999);
    due("half(): 100 are less than half", 100, () -> tree.half());
    tree.drop(0);
    due("half(): of 199", 100, () -> tree.half());
  }

  private void halfHeavyFirstOrLast() {
    start("13: half, the first or the last is heavy");
    for (int n = 0; n < 101; n++) {
      tree.put(n, n, 0, 10);
    }
    tree.put(100, 100, 0, 1000);
    due("half(): the last is needed not", 99, () -> tree.half());
    tree.put(99, 99, 0, 9);
    due("half(): the last is needed", 100, () -> tree.half());
    tree.put(100, -1, 0, 1000);
    due("half(): the first will do", 100, () -> tree.half());
  }

  private void countOfItems() {
    start("16: 0 ITEMS");
    due("count(0) of none", 0, () -> tree.count(0));
    for (int n = 0; n < 200; n++) {
      int number = n;
      tree.put(n, 0, 0, 1);
      due("count(0)", number + 1, () -> tree.count(0));
    }
    tree.put(0, 1, 1, 1);
    due("count(0) after a put in place", 200, () -> tree.count(0));
    tree.drop(0);
    due("count(0) after a drop", 199, () -> tree.count(0));
    tree.slide(1);
    due("count(0) after a slide", 199, () -> tree.count(0));
    tree.cut(0, 1);
    due("count(0) after a cut", 0, () -> tree.count(0));
  }

  private void countOfWeights() {
    start("16: 1 WEIGHTS together");
    due("count(1) of none", 0, () -> tree.count(1));
    tree.put(4, 0, 0, 1);
    due("count(1) of 1", 1, () -> tree.count(1));
    tree.put(4, 0, 0, 1000);
    due("count(1) after a put in place", 1000, () -> tree.count(1));
    tree.put(5, 1, 0, 7);
    due("count(1) of two", 1007, () -> tree.count(1));
    tree.cut(0, 0);
    due("count(1) after a cut", 7, () -> tree.count(1));
    tree.drop(5);
    due("count(1) after a drop", 0, () -> tree.count(1));
    startWithAll("16: 1 WEIGHTS together, all there");
    due("count(1)", 200_000, () -> tree.count(1));
  }

  private void countOfFairOnes() {
    start("16: 2 FAIR ones");
    due("count(2) of none", 0, () -> tree.count(2));
    tree.put(4, 9, 0, 1);
    due("count(2) of one", 1, () -> tree.count(2));
    tree.put(5, 10, 0, 1);
    due("count(2) of two", 1, () -> tree.count(2));
    tree.put(6, 11, 0, 1);
    due("count(2) of three", 2, () -> tree.count(2));
    tree.slide(-10);
    due("count(2) after a slide", 2, () -> tree.count(2));
    tree.put(6, 0, 0, 1);
    due("count(2) after a put in place", 1, () -> tree.count(2));
    tree.drop(4);
    due("count(2) of two with equal KEYS", 2, () -> tree.count(2));
    startWithAll("16: 2 FAIR ones, all there");
    due("count(2)", 100, () -> tree.count(2));
  }

  private void countElse() {
    start("16: Else -1");
    int[] others = {-1, 3, -2, 4, 256, 257, 258, Integer.MIN_VALUE, Integer.MAX_VALUE};
    for (int what : others) {
      due("count(" + what + ") of none", -1, () -> tree.count(what));
    }
    tree.put(1, 2, 3, 4);
    for (int what : others) {
      due("count(" + what + ") of one", -1, () -> tree.count(what));
    }
  }
}
