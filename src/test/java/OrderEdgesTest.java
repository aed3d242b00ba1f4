/** The edges of questions on places, KEYS and DUES: promises 5 to 10 and 14. */
public final class OrderEdgesTest extends TreeChecks {
  public static void main(String[] args) {
    OrderEdgesTest test = new OrderEdgesTest();
    test.toldByWhat();
    test.atTheEnds();
    test.rankTheEnds();
    test.earliestNotAbove();
    test.earliestAtTheLimits();
    test.betweenBothEnds();
    test.betweenFromOneToAnother();
    test.betweenAtTheLimits();
    test.pickOfTheFairOnes();
    test.pickOfOne();
    test.nearestOfFewerThanTwo();
    test.nearestOfEqualKeys();
    test.nearestIsNotOfTheEndsAlone();
    test.nearestFarApart();
    test.end();
  }

  private void toldByWhat() {
    start("5: what 0 KEY, 1 DUE, 2 WEIGHT");
    tree.put(6, -3, -4, 5);
    due("told(6, 0)", -3, () -> tree.told(6, 0));
    due("told(6, 1)", -4, () -> tree.told(6, 1));
    due("told(6, 2)", 5, () -> tree.told(6, 2));
    for (int what : new int[] {-1, 3, 4, 256, Integer.MIN_VALUE, Integer.MAX_VALUE}) {
      dueThrow("another what: told(6, " + what + ")", ILLEGAL, () -> tree.told(6, what));
    }
  }

  private void atTheEnds() {
    startWithAll("6: at place k in ORDER, from 0");
    due("at(0)", 0, () -> tree.at(0));
    due("at(199)", 199, () -> tree.at(199));
    for (int k : new int[] {-1, 200, 256, Integer.MIN_VALUE, Integer.MAX_VALUE}) {
      dueThrow("at(" + k + ")", NO_SUCH, () -> tree.at(k));
    }
    due("drop(0)", 1000, () -> tree.drop(0));
    due("at(0) without 0", 1, () -> tree.at(0));
    due("at(198)", 199, () -> tree.at(198));
    dueThrow("at(199): a place that was", NO_SUCH, () -> tree.at(199));
    tree.cut(0, 396);
    due("at(0) of one", 199, () -> tree.at(0));
    dueThrow("at(1) of one", NO_SUCH, () -> tree.at(1));
  }

  private void rankTheEnds() {
    startWithAll("7: The place of ITEM n in ORDER");
    for (int n = 0; n < 200; n++) {
      int number = n;
      due("rank(" + n + ")", n, () -> tree.rank(number));
    }
    tree.put(0, 399, 0, 1);
    due("rank(0), now the last", 199, () -> tree.rank(0));
    due("rank(1), now the first", 0, () -> tree.rank(1));
    tree.put(0, 2, 0, 1);
    due("rank(0), equal KEYS by numbers", 0, () -> tree.rank(0));
    due("rank(1), equal KEYS by numbers", 1, () -> tree.rank(1));
    dueThrow("rank(-1)", NO_SUCH, () -> tree.rank(-1));
    dueThrow("rank(200)", NO_SUCH, () -> tree.rank(200));
  }

  private void earliestNotAbove() {
    startWithFour("8: those whose KEY is not above key");
    dueThrow("earliest(9): all are above", NO_SUCH, () -> tree.earliest(9));
    due("earliest(10): one is not above", 7, () -> tree.earliest(10));
    due("earliest(19): those of 20 are above", 7, () -> tree.earliest(19));
    due("earliest(20): those of 20 are not above", 5, () -> tree.earliest(20));
    due("earliest(49): 50 is above", 5, () -> tree.earliest(49));
    due("earliest(50): none is above", 9, () -> tree.earliest(50));
    due("earliest(51): none is above", 9, () -> tree.earliest(51));
  }

  private void earliestAtTheLimits() {
    startFarApart("8: not above, at the limits");
    dueThrow("earliest(least)", NO_SUCH, () -> tree.earliest(LEAST));
    dueThrow("earliest(-2^41 - 1)", NO_SUCH, () -> tree.earliest(-SLIDE_LIMIT - 1));
    due("earliest(-2^41)", 1, () -> tree.earliest(-SLIDE_LIMIT));
    due("earliest(2^40 - 1)", 1, () -> tree.earliest(PUT_LIMIT - 1));
    due("earliest(2^40)", 0, () -> tree.earliest(PUT_LIMIT));
    due("earliest(most)", 0, () -> tree.earliest(MOST));
  }

  private void betweenBothEnds() {
    startWithFour("9: from one to another");
    due("between(10, 10)", 7, () -> tree.between(10, 10));
    due("between(50, 50)", 9, () -> tree.between(50, 50));
    due("between(10, 19)", 7, () -> tree.between(10, 19));
    due("between(10, 20)", 5, () -> tree.between(10, 20));
    due("between(20, 49)", 5, () -> tree.between(20, 49));
    due("between(20, 50)", 9, () -> tree.between(20, 50));
    due("between(9, 11)", 7, () -> tree.between(9, 11));
    dueThrow("between(11, 19)", NO_SUCH, () -> tree.between(11, 19));
    dueThrow("between(21, 49)", NO_SUCH, () -> tree.between(21, 49));
    dueThrow("between(least, 9)", NO_SUCH, () -> tree.between(LEAST, 9));
    dueThrow("between(51, most)", NO_SUCH, () -> tree.between(51, MOST));
  }

  private void betweenFromOneToAnother() {
    startWithFour("9: from one to a lesser one no KEY lies");
    dueThrow("between(50, 10)", NO_SUCH, () -> tree.between(50, 10));
    dueThrow("between(20, 19)", NO_SUCH, () -> tree.between(20, 19));
    dueThrow("between(21, 20)", NO_SUCH, () -> tree.between(21, 20));
    dueThrow("between(21, 19)", NO_SUCH, () -> tree.between(21, 19));
    dueThrow("between(most, least)", NO_SUCH, () -> tree.between(MOST, LEAST));
    dueTheFour();
  }

  private void betweenAtTheLimits() {
    startFarApart("9: from one to another, at the limits");
    due("between(-2^41, 2^40 - 1)", 1, () -> tree.between(-SLIDE_LIMIT, PUT_LIMIT - 1));
    due("between(-2^41, 2^40)", 0, () -> tree.between(-SLIDE_LIMIT, PUT_LIMIT));
    due("between(-2^41, -2^41)", 1, () -> tree.between(-SLIDE_LIMIT, -SLIDE_LIMIT));
    due("between(least, -2^41)", 1, () -> tree.between(LEAST, -SLIDE_LIMIT));
    due("between(2^40, most)", 0, () -> tree.between(PUT_LIMIT, MOST));
    dueThrow("between(-2^41 + 1, 2^40 - 1)", NO_SUCH,
        () -> tree.between(-SLIDE_LIMIT + 1, PUT_LIMIT - 1));
    dueThrow("between(least, -2^41 - 1)", NO_SUCH, () -> tree.between(LEAST, -SLIDE_LIMIT - 1));
    dueThrow("between(2^40 + 1, most)", NO_SUCH, () -> tree.between(PUT_LIMIT + 1, MOST));
    dueThrow("between(least, least)", NO_SUCH, () -> tree.between(LEAST, LEAST));
    dueThrow("between(most, most)", NO_SUCH, () -> tree.between(MOST, MOST));
  }

  private void pickOfTheFairOnes() {
    start("10: EARLIEST of the FAIR ones");
    tree.put(1, 10, 5, 1);
    tree.put(2, 20, 4, 1);
    tree.put(3, 30, 3, 1);
    due("pick(): 2 has just its share, 3 is ahead", 2, () -> tree.pick());
    tree.put(3, 29, 3, 1);
    due("pick(): 2 is ahead", 1, () -> tree.pick());
    tree.put(3, 31, 3, 1);
    due("pick(): 2 is behind", 2, () -> tree.pick());
    tree.put(4, 0, 4, 1);
    tree.put(3, 50, 3, 1);
    due("pick(), equal DUES by numbers", 2, () -> tree.pick());
    tree.put(4, 0, 3, 1);
    due("pick(), 4 is earlier", 4, () -> tree.pick());
  }

  private void pickOfOne() {
    for (long key : new long[] {-PUT_LIMIT, -1, 0, 1, PUT_LIMIT}) {
      start("10: EARLIEST of the FAIR ones, one at " + key);
      dueThrow("pick() of none", NO_SUCH, () -> tree.pick());
      tree.put(77, key, MOST, 999);
      due("pick()", 77, () -> tree.pick());
      tree.slide(key);
      due("pick() after slide(key)", 77, () -> tree.pick());
      tree.drop(77);
      dueThrow("pick() of none left", NO_SUCH, () -> tree.pick());
    }
  }

  private void nearestOfFewerThanTwo() {
    start("14: there are not two");
    dueThrow("nearest() of none", NO_SUCH, () -> tree.nearest());
    tree.put(3, 5, 0, 1);
    dueThrow("nearest() of one", NO_SUCH, () -> tree.nearest());
    tree.put(3, 6, 0, 1);
    dueThrow("nearest() of one, put twice", NO_SUCH, () -> tree.nearest());
    tree.put(4, 16, 0, 1);
    due("nearest() of two", 10, () -> tree.nearest());
    tree.drop(3);
    dueThrow("nearest() of one left", NO_SUCH, () -> tree.nearest());
    tree.put(3, 6, 0, 1);
    tree.cut(7, 16);
    dueThrow("nearest() of one not cut", NO_SUCH, () -> tree.nearest());
    tree.drop(3);
    dueThrow("nearest() of none left", NO_SUCH, () -> tree.nearest());
  }

  private void nearestOfEqualKeys() {
    start("14: The least difference, of equal KEYS");
    tree.put(3, -5, 0, 1);
    tree.put(4, -5, 0, 1);
    due("nearest() of two", 0, () -> tree.nearest());
    tree.put(5, -4, 0, 1);
    due("nearest() of three", 0, () -> tree.nearest());
    tree.put(4, -2, 0, 1);
    due("nearest() when none are equal", 1, () -> tree.nearest());
    tree.slide(5);
    due("nearest() after a slide", 1, () -> tree.nearest());
    tree.put(9, 3, 0, 1);
    due("nearest(): equal after a slide", 0, () -> tree.nearest());
  }

  private void nearestIsNotOfTheEndsAlone() {
    start("14: The least difference, anywhere");
    long[] keys = {-70, -40, -20, 10, 50};
    for (int n = 0; n < keys.length; n++) {
      tree.put(n, keys[n], 0, 1);
    }
    due("nearest() of -40 and -20", 20, () -> tree.nearest());
    tree.put(10, 60, 0, 1);
    due("nearest() of the last two", 10, () -> tree.nearest());
    tree.put(11, -75, 0, 1);
    due("nearest() of the first two", 5, () -> tree.nearest());
    tree.put(12, -1, 0, 1);
    tree.put(13, 1, 0, 1);
    due("nearest() of two about zero", 2, () -> tree.nearest());
    tree.put(14, 0, 0, 1);
    due("nearest() of three about zero", 1, () -> tree.nearest());
  }

  private void nearestFarApart() {
    startFarApart("14: The least difference, far apart");
    due("nearest()", APART, () -> tree.nearest());
    due("slide(2^40)", -PUT_LIMIT, () -> tree.slide(PUT_LIMIT));
    due("nearest() after a slide", APART, () -> tree.nearest());
    startWithAll("14: The least difference, all there");
    due("nearest()", 2, () -> tree.nearest());
    tree.put(120, 239, 0, 1);
    due("nearest() of 119 and 120", 1, () -> tree.nearest());
  }
}
