/** One method or more for each sentence of promises 2 to 16 that names or has an edge. */
public final class EdgesTest extends TreeChecks {
  private static final long APART = SLIDE_LIMIT + PUT_LIMIT;

  public static void main(String[] args) {
    EdgesTest test = new EdgesTest();
    test.changes();
    test.placesAndDues();
    test.weights();
    test.lastCall();
    test.end();
  }

  private void changes() {
    putInPlaceTakesAll();
    putInPlaceAtTheSameKey();
    putAnswersHowMany();
    putOfAllNumbers();
    putRefusesOneByOne();
    dropOfFirstMiddleLast();
    dropOfAFullTree();
    dropAnswersTheWeight();
    slideOfAllKeys();
    slideAnswersTheLeastKey();
    slideBelowTheLeast();
    slideAboveTheMost();
    slideByWhatWouldWrap();
    slideLooksAtEachKey();
    slidesAddUp();
    slideIsNotForLaterItems();
    cutTakesBothEnds();
    cutFromOneToAnother();
    cutOfAFullTree();
    cutAtTheLimits();
    cutThenPutAgain();
  }

  private void placesAndDues() {
    toldByWhat();
    atTheEnds();
    rankTheEnds();
    earliestNotAbove();
    earliestAtTheLimits();
    betweenBothEnds();
    betweenFromOneToAnother();
    betweenAtTheLimits();
    pickOfTheFairOnes();
    pickOfOne();
    nearestOfFewerThanTwo();
    nearestOfEqualKeys();
    nearestIsNotOfTheEndsAlone();
    nearestFarApart();
  }

  private void weights() {
    aheadOfOne();
    aheadOfNoMoreThanItsShare();
    aheadFarApart();
    weightNotAbove();
    weightAtTheLimits();
    halfIsAtLeastHalf();
    halfOfAnOddWhole();
    halfOfOne();
    halfOfEqualKeys();
    halfOfAll();
    halfHeavyFirstOrLast();
    countOfItems();
    countOfWeights();
    countOfFairOnes();
    countElse();
  }

  private void putInPlaceTakesAll() {
    startWithFour("2: in place of what it was");
    due("put(7, 60, -5, 1000)", 4, () -> tree.put(7, 60, -5, 1000));
    dueOrder(2, 5, 9, 7);
    dueItem(7, 3, 60, -5, 1000);
    due("count(1)", 1006, () -> tree.count(1));
    due("earliest(most)", 7, () -> tree.earliest(MOST));
    due("weight(10): no KEY of 10 is left", 0, () -> tree.weight(10));
    due("put(7, 30, 0, 1)", 4, () -> tree.put(7, 30, 0, 1));
    dueOrder(2, 5, 7, 9);
    dueItem(7, 2, 30, 0, 1);
    due("drop(7)", 1, () -> tree.drop(7));
    dueOrder(2, 5, 9);
  }

  private void putInPlaceAtTheSameKey() {
    startWithFour("2: in place of what it was, at the same KEY");
    due("put(5, 20, 1, 2), as it was", 4, () -> tree.put(5, 20, 1, 2));
    dueTheFour();
    due("put(2, 20, 0, 5)", 4, () -> tree.put(2, 20, 0, 5));
    dueItem(2, 1, 20, 0, 5);
    dueItem(5, 2, 20, 1, 2);
    due("earliest(20)", 2, () -> tree.earliest(20));
    due("count(1)", 14, () -> tree.count(1));
  }

  private void putAnswersHowMany() {
    start("2: how many are there");
    due("put(4)", 1, () -> tree.put(4, 0, 0, 1));
    due("put(4) again", 1, () -> tree.put(4, 1, 1, 2));
    due("put(3)", 2, () -> tree.put(3, 0, 0, 1));
    tree.drop(4);
    due("put(2) after a drop", 2, () -> tree.put(2, 5, 0, 1));
    tree.cut(0, 0);
    due("put(1) after a cut", 2, () -> tree.put(1, 0, 0, 1));
    tree.cut(LEAST, MOST);
    due("put(1) after a cut of all", 1, () -> tree.put(1, 0, 0, 1));
  }

  private void putOfAllNumbers() {
    start("2: how many are there, up to all");
    for (int n = 0; n < 200; n++) {
      int number = (n * 77) % 200;
      due("put(" + number + ")", n + 1, () -> tree.put(number, -number, number, 1000));
    }
    due("put(0) again", 200, () -> tree.put(0, -PUT_LIMIT, 5, 1));
    dueItem(0, 0, -PUT_LIMIT, 5, 1);
    due("put(0) again", 200, () -> tree.put(0, PUT_LIMIT, 6, 2));
    dueItem(0, 199, PUT_LIMIT, 6, 2);
    due("drop(100)", 1000, () -> tree.drop(100));
    due("put(100)", 200, () -> tree.put(100, 0, 7, 3));
    dueItem(100, 198, 0, 7, 3);
  }

  private void putRefusesOneByOne() {
    start("2: another number, KEY or WEIGHT than can be");
    dueThrow("number alone, below", ILLEGAL, () -> tree.put(-1, 0, 0, 1));
    dueThrow("number alone, above", ILLEGAL, () -> tree.put(200, 0, 0, 1));
    dueThrow("KEY alone, below", ILLEGAL, () -> tree.put(0, -PUT_LIMIT - 1, 0, 1));
    dueThrow("KEY alone, above", ILLEGAL, () -> tree.put(0, PUT_LIMIT + 1, 0, 1));
    dueThrow("WEIGHT alone, below", ILLEGAL, () -> tree.put(0, 0, 0, 0));
    dueThrow("WEIGHT alone, above", ILLEGAL, () -> tree.put(0, 0, 0, 1001));
    dueThrow("all at once", ILLEGAL, () -> tree.put(200, PUT_LIMIT + 1, 0, 1001));
    due("none of them, low", 1, () -> tree.put(0, -PUT_LIMIT, LEAST, 1));
    due("none of them, high", 2, () -> tree.put(199, PUT_LIMIT, MOST, 1000));
  }

  private void dropOfFirstMiddleLast() {
    startWithFour("3: there no more, the first");
    due("drop(7)", 4, () -> tree.drop(7));
    dueOrder(2, 5, 9);
    startWithFour("3: there no more, one in the middle");
    due("drop(2)", 1, () -> tree.drop(2));
    dueOrder(7, 5, 9);
    startWithFour("3: there no more, the last");
    due("drop(9)", 3, () -> tree.drop(9));
    dueOrder(7, 2, 5);
    due("drop(7)", 4, () -> tree.drop(7));
    due("drop(5)", 2, () -> tree.drop(5));
    due("drop(2), the only one", 1, () -> tree.drop(2));
    dueOrder();
    dueThrow("drop(2) again", NO_SUCH, () -> tree.drop(2));
  }

  private void dropOfAFullTree() {
    startWithAll("3: there no more, of all");
    for (int n = 0; n < 200; n++) {
      int number = (n * 77 + 50) % 200;
      due("drop(" + number + ")", 1000, () -> tree.drop(number));
    }
    dueOrder();
    due("count(1)", 0, () -> tree.count(1));
    due("put(199, 1, 2, 3)", 1, () -> tree.put(199, 1, 2, 3));
    dueItem(199, 0, 1, 2, 3);
  }

  private void dropAnswersTheWeight() {
    start("3: its WEIGHT");
    tree.put(0, 5, 6, 1);
    tree.put(199, 7, 8, 1000);
    tree.put(50, 7, 8, 10);
    tree.put(50, 7, 8, 11);
    due("drop(0)", 1, () -> tree.drop(0));
    due("drop(199)", 1000, () -> tree.drop(199));
    due("drop(50), put twice", 11, () -> tree.drop(50));
  }

  private void slideOfAllKeys() {
    startWithAll("4: All KEYS become by more");
    due("slide(-1001)", -1001, () -> tree.slide(-1001));
    for (int n = 0; n < 200; n++) {
      int number = n;
      due("told(" + n + ", 0)", 2 * n - 1001, () -> tree.told(number, 0));
    }
    dueItem(0, 0, -1001, 0, 1000);
    dueItem(199, 199, 398 - 1001, -199, 1000);
    due("count(2)", 100, () -> tree.count(2));
    due("nearest()", 2, () -> tree.nearest());
  }

  private void slideAnswersTheLeastKey() {
    start("4: the least KEY then");
    tree.put(1, 5, 0, 1);
    due("slide(-5)", 0, () -> tree.slide(-5));
    tree.put(0, 1, 0, 1);
    due("slide(0): the KEY of 1, not of the least number", 0, () -> tree.slide(0));
    tree.put(2, -1, 0, 1);
    due("slide(10): the KEY of 2", 9, () -> tree.slide(10));
    tree.drop(2);
    due("slide(-20): the KEY of 1 again", -10, () -> tree.slide(-20));
  }

  private void slideBelowTheLeast() {
    start("4: some KEY would be below -2^41");
    tree.put(1, 100, 0, 1);
    dueThrow("slide(-2^41 - 101)", ILLEGAL, () -> tree.slide(-SLIDE_LIMIT - 101));
    due("slide(-2^41 - 100)", -SLIDE_LIMIT, () -> tree.slide(-SLIDE_LIMIT - 100));
    dueThrow("slide(-1)", ILLEGAL, () -> tree.slide(-1));
    due("slide(0)", -SLIDE_LIMIT, () -> tree.slide(0));
    due("slide(1)", -SLIDE_LIMIT + 1, () -> tree.slide(1));
    due("slide(-1)", -SLIDE_LIMIT, () -> tree.slide(-1));
    due("told(1, 0)", -SLIDE_LIMIT, () -> tree.told(1, 0));
  }

  private void slideAboveTheMost() {
    start("4: some KEY would be above 2^41");
    tree.put(1, -100, 0, 1);
    dueThrow("slide(2^41 + 101)", ILLEGAL, () -> tree.slide(SLIDE_LIMIT + 101));
    due("slide(2^41 + 100)", SLIDE_LIMIT, () -> tree.slide(SLIDE_LIMIT + 100));
    dueThrow("slide(1)", ILLEGAL, () -> tree.slide(1));
    due("slide(0)", SLIDE_LIMIT, () -> tree.slide(0));
    due("slide(-1)", SLIDE_LIMIT - 1, () -> tree.slide(-1));
    due("slide(1)", SLIDE_LIMIT, () -> tree.slide(1));
    due("told(1, 0)", SLIDE_LIMIT, () -> tree.told(1, 0));
  }

  private void slideByWhatWouldWrap() {
    long[] ends = {-SLIDE_LIMIT, -PUT_LIMIT, -1, 0, 1, PUT_LIMIT, SLIDE_LIMIT};
    long[] tooFar = {MOST, MOST - 1, LEAST, LEAST + 1, MOST - SLIDE_LIMIT, LEAST + SLIDE_LIMIT};
    for (long key : ends) {
      start("4: a KEY of " + key + " that would wrap around");
      tree.put(1, key / 2, 5, 6);
      tree.slide(key - key / 2);
      for (long by : tooFar) {
        dueThrow("slide(" + by + ")", ILLEGAL, () -> tree.slide(by));
      }
      dueItem(1, 0, key, 5, 6);
    }
  }

  private void slideLooksAtEachKey() {
    start("4: some KEY, and be it one of many");
    for (int n = 0; n < 100; n++) {
      tree.put(n, n, 0, 1);
    }
    tree.put(150, PUT_LIMIT, 0, 1);
    tree.put(120, -PUT_LIMIT, 0, 1);
    dueThrow("slide(2^40 + 1): 150", ILLEGAL, () -> tree.slide(PUT_LIMIT + 1));
    dueThrow("slide(-2^40 - 1): 120", ILLEGAL, () -> tree.slide(-PUT_LIMIT - 1));
    tree.drop(150);
    due("slide(2^40 + 1) without 150", 1, () -> tree.slide(PUT_LIMIT + 1));
    due("slide(-2^40 - 1)", -PUT_LIMIT, () -> tree.slide(-PUT_LIMIT - 1));
    tree.cut(-PUT_LIMIT, -1);
    due("slide(-2^40 - 1) without 120", -PUT_LIMIT - 1, () -> tree.slide(-PUT_LIMIT - 1));
  }

  private void slidesAddUp() {
    start("4: KEYS after many slides");
    tree.put(1, 0, 0, 1);
    long step = SLIDE_LIMIT / 64;
    for (int slides = 1; slides <= 64; slides++) {
      long key = slides * step;
      due("slide " + slides, key, () -> tree.slide(step));
    }
    dueThrow("slide 65", ILLEGAL, () -> tree.slide(step));
    for (int slides = 1; slides <= 128; slides++) {
      long key = SLIDE_LIMIT - slides * step;
      due("slide back " + slides, key, () -> tree.slide(-step));
    }
    dueThrow("slide back 129", ILLEGAL, () -> tree.slide(-step));
  }

  private void slideIsNotForLaterItems() {
    start("4: All KEYS, not those put later");
    tree.put(1, 5, 0, 1);
    tree.slide(100);
    due("put(2, 5)", 2, () -> tree.put(2, 5, 0, 1));
    due("told(2, 0)", 5, () -> tree.told(2, 0));
    due("put(1, 5) again", 2, () -> tree.put(1, 5, 0, 1));
    due("told(1, 0)", 5, () -> tree.told(1, 0));
    tree.slide(100);
    tree.cut(LEAST, MOST);
    due("put(3, 5) when none was left", 1, () -> tree.put(3, 5, 0, 1));
    due("told(3, 0)", 5, () -> tree.told(3, 0));
  }

  private void toldByWhat() {
    start("5: what 0 KEY, 1 DUE, 2 WEIGHT");
    tree.put(6, -3, -4, 5);
    due("told(6, 0)", -3, () -> tree.told(6, 0));
    due("told(6, 1)", -4, () -> tree.told(6, 1));
    due("told(6, 2)", 5, () -> tree.told(6, 2));
    for (int what : new int[] {-1, 3, 4, 256, Integer.MIN_VALUE, Integer.MAX_VALUE}) {
      dueThrow("another what: told(6, " + what + ")", ILLEGAL, () -> tree.told(6, what));
    }
  }

  private void atTheEnds() {
    startWithAll("6: at place k in ORDER, from 0");
    due("at(0)", 0, () -> tree.at(0));
    due("at(199)", 199, () -> tree.at(199));
    for (int k : new int[] {-1, 200, 256, Integer.MIN_VALUE, Integer.MAX_VALUE}) {
      dueThrow("at(" + k + ")", NO_SUCH, () -> tree.at(k));
    }
    due("drop(0)", 1000, () -> tree.drop(0));
    due("at(0) without 0", 1, () -> tree.at(0));
    due("at(198)", 199, () -> tree.at(198));
    dueThrow("at(199): a place that was", NO_SUCH, () -> tree.at(199));
    tree.cut(0, 396);
    due("at(0) of one", 199, () -> tree.at(0));
    dueThrow("at(1) of one", NO_SUCH, () -> tree.at(1));
  }

  private void rankTheEnds() {
    startWithAll("7: The place of ITEM n in ORDER");
    for (int n = 0; n < 200; n++) {
      int number = n;
      due("rank(" + n + ")", n, () -> tree.rank(number));
    }
    tree.put(0, 399, 0, 1);
    due("rank(0), now the last", 199, () -> tree.rank(0));
    due("rank(1), now the first", 0, () -> tree.rank(1));
    tree.put(0, 2, 0, 1);
    due("rank(0), equal KEYS by numbers", 0, () -> tree.rank(0));
    due("rank(1), equal KEYS by numbers", 1, () -> tree.rank(1));
    dueThrow("rank(-1)", NO_SUCH, () -> tree.rank(-1));
    dueThrow("rank(200)", NO_SUCH, () -> tree.rank(200));
  }

  private void earliestNotAbove() {
    startWithFour("8: those whose KEY is not above key");
    dueThrow("earliest(9): all are above", NO_SUCH, () -> tree.earliest(9));
    due("earliest(10): one is not above", 7, () -> tree.earliest(10));
    due("earliest(19): those of 20 are above", 7, () -> tree.earliest(19));
    due("earliest(20): those of 20 are not above", 5, () -> tree.earliest(20));
    due("earliest(49): 50 is above", 5, () -> tree.earliest(49));
    due("earliest(50): none is above", 9, () -> tree.earliest(50));
    due("earliest(51): none is above", 9, () -> tree.earliest(51));
  }

  private void earliestAtTheLimits() {
    startFarApart("8: not above, at the limits");
    dueThrow("earliest(least)", NO_SUCH, () -> tree.earliest(LEAST));
    dueThrow("earliest(-2^41 - 1)", NO_SUCH, () -> tree.earliest(-SLIDE_LIMIT - 1));
    due("earliest(-2^41)", 1, () -> tree.earliest(-SLIDE_LIMIT));
    due("earliest(2^40 - 1)", 1, () -> tree.earliest(PUT_LIMIT - 1));
    due("earliest(2^40)", 0, () -> tree.earliest(PUT_LIMIT));
    due("earliest(most)", 0, () -> tree.earliest(MOST));
  }

  /** Item 1 at -2^41 and item 0, which is earlier, at 2^40: no two KEYS can be further apart. */
  private void startFarApart(String name) {
    start(name);
    tree.put(0, PUT_LIMIT, 0, 1);
    tree.slide(PUT_LIMIT);
    tree.put(1, -PUT_LIMIT, 1, 1000);
    tree.slide(-PUT_LIMIT);
  }

  private void betweenBothEnds() {
    startWithFour("9: from one to another");
    due("between(10, 10)", 7, () -> tree.between(10, 10));
    due("between(50, 50)", 9, () -> tree.between(50, 50));
    due("between(10, 19)", 7, () -> tree.between(10, 19));
    due("between(10, 20)", 5, () -> tree.between(10, 20));
    due("between(20, 49)", 5, () -> tree.between(20, 49));
    due("between(20, 50)", 9, () -> tree.between(20, 50));
    due("between(9, 11)", 7, () -> tree.between(9, 11));
    dueThrow("between(11, 19)", NO_SUCH, () -> tree.between(11, 19));
    dueThrow("between(21, 49)", NO_SUCH, () -> tree.between(21, 49));
    dueThrow("between(least, 9)", NO_SUCH, () -> tree.between(LEAST, 9));
    dueThrow("between(51, most)", NO_SUCH, () -> tree.between(51, MOST));
  }

  private void betweenFromOneToAnother() {
    startWithFour("9: from one to a lesser one no KEY lies");
    dueThrow("between(50, 10)", NO_SUCH, () -> tree.between(50, 10));
    dueThrow("between(20, 19)", NO_SUCH, () -> tree.between(20, 19));
    dueThrow("between(21, 20)", NO_SUCH, () -> tree.between(21, 20));
    dueThrow("between(21, 19)", NO_SUCH, () -> tree.between(21, 19));
    dueThrow("between(most, least)", NO_SUCH, () -> tree.between(MOST, LEAST));
    dueTheFour();
  }

  private void betweenAtTheLimits() {
    startFarApart("9: from one to another, at the limits");
    due("between(-2^41, 2^40 - 1)", 1, () -> tree.between(-SLIDE_LIMIT, PUT_LIMIT - 1));
    due("between(-2^41, 2^40)", 0, () -> tree.between(-SLIDE_LIMIT, PUT_LIMIT));
    due("between(-2^41, -2^41)", 1, () -> tree.between(-SLIDE_LIMIT, -SLIDE_LIMIT));
    due("between(least, -2^41)", 1, () -> tree.between(LEAST, -SLIDE_LIMIT));
    due("between(2^40, most)", 0, () -> tree.between(PUT_LIMIT, MOST));
    dueThrow("between(-2^41 + 1, 2^40 - 1)", NO_SUCH,
        () -> tree.between(-SLIDE_LIMIT + 1, PUT_LIMIT - 1));
    dueThrow("between(least, -2^41 - 1)", NO_SUCH, () -> tree.between(LEAST, -SLIDE_LIMIT - 1));
    dueThrow("between(2^40 + 1, most)", NO_SUCH, () -> tree.between(PUT_LIMIT + 1, MOST));
    dueThrow("between(least, least)", NO_SUCH, () -> tree.between(LEAST, LEAST));
    dueThrow("between(most, most)", NO_SUCH, () -> tree.between(MOST, MOST));
  }

  private void pickOfTheFairOnes() {
    start("10: EARLIEST of the FAIR ones");
    tree.put(1, 10, 5, 1);
    tree.put(2, 20, 4, 1);
    tree.put(3, 30, 3, 1);
    due("pick(): 2 has just its share, 3 is ahead", 2, () -> tree.pick());
    tree.put(3, 29, 3, 1);
    due("pick(): 2 is ahead", 1, () -> tree.pick());
    tree.put(3, 31, 3, 1);
    due("pick(): 2 is behind", 2, () -> tree.pick());
    tree.put(4, 0, 4, 1);
    tree.put(3, 50, 3, 1);
    due("pick(), equal DUES by numbers", 2, () -> tree.pick());
    tree.put(4, 0, 3, 1);
    due("pick(), 4 is earlier", 4, () -> tree.pick());
  }

  private void pickOfOne() {
    for (long key : new long[] {-PUT_LIMIT, -1, 0, 1, PUT_LIMIT}) {
      start("10: EARLIEST of the FAIR ones, one at " + key);
      dueThrow("pick() of none", NO_SUCH, () -> tree.pick());
      tree.put(77, key, MOST, 999);
      due("pick()", 77, () -> tree.pick());
      tree.slide(key);
      due("pick() after slide(key)", 77, () -> tree.pick());
      tree.drop(77);
      dueThrow("pick() of none left", NO_SUCH, () -> tree.pick());
    }
  }

  private void aheadOfOne() {
    for (long key : new long[] {-PUT_LIMIT, -1, 0, 1, PUT_LIMIT}) {
      start("11: How much more than its share, one at " + key);
      tree.put(77, key, 0, 1000);
      due("ahead(77)", 0, () -> tree.ahead(77));
      tree.slide(key);
      due("ahead(77) after slide(key)", 0, () -> tree.ahead(77));
    }
  }

  private void aheadOfNoMoreThanItsShare() {
    startWithFour("11: KEY times all WEIGHTS less the sum");
    due("ahead(7), less than its share", -150, () -> tree.ahead(7));
    due("ahead(5), less than its share", -50, () -> tree.ahead(5));
    due("ahead(9), more than its share", 250, () -> tree.ahead(9));
    tree.put(5, 25, 1, 2);
    tree.put(9, 46, 0, 5);
    due("ahead(2), another KEY and WEIGHT", 20 * 12 - 340, () -> tree.ahead(2));
    tree.put(9, 25, 0, 5);
    tree.put(7, 26, 0, 4);
    tree.put(2, 21, 0, 1);
    due("ahead(5), just its share", 0, () -> tree.ahead(5));
    tree.drop(2);
    due("ahead(5) after a drop", -4, () -> tree.ahead(5));
    tree.cut(26, 26);
    due("ahead(5) after a cut", 0, () -> tree.ahead(5));
  }

  private void aheadFarApart() {
    startFarApart("11: KEY times all WEIGHTS less the sum, far apart");
    due("ahead(0)", APART * 1000, () -> tree.ahead(0));
    due("ahead(1)", -APART, () -> tree.ahead(1));
    for (int n = 2; n < 200; n++) {
      tree.put(n, -PUT_LIMIT, 0, 1000);
    }
    due("ahead(0)", APART * 1000 + SLIDE_LIMIT * 198_000, () -> tree.ahead(0));
    due("ahead(1)", -APART - PUT_LIMIT * 198_000, () -> tree.ahead(1));
    due("slide(2^40)", -PUT_LIMIT, () -> tree.slide(PUT_LIMIT));
    due("ahead(0) slid", APART * 1000 + SLIDE_LIMIT * 198_000, () -> tree.ahead(0));
    due("ahead(1) slid", -APART - PUT_LIMIT * 198_000, () -> tree.ahead(1));
  }

  private void weightNotAbove() {
    startWithFour("12: those whose KEY is not above key, together");
    due("weight(9)", 0, () -> tree.weight(9));
    due("weight(10)", 4, () -> tree.weight(10));
    due("weight(11)", 4, () -> tree.weight(11));
    due("weight(19)", 4, () -> tree.weight(19));
    due("weight(20)", 7, () -> tree.weight(20));
    due("weight(49)", 7, () -> tree.weight(49));
    due("weight(50)", 10, () -> tree.weight(50));
    due("weight(51)", 10, () -> tree.weight(51));
    tree.slide(-60);
    due("weight(-51) after a slide", 0, () -> tree.weight(-51));
    due("weight(-50) after a slide", 4, () -> tree.weight(-50));
    tree.drop(7);
    due("weight(-50) after a drop", 0, () -> tree.weight(-50));
    dueTheRestOfTheWeights();
  }

  private void dueTheRestOfTheWeights() {
    tree.put(5, -40, 0, 9);
    due("weight(-40) after a put in place", 10, () -> tree.weight(-40));
    tree.cut(-40, -40);
    due("weight(-40) after a cut", 0, () -> tree.weight(-40));
    due("weight(-10) after a cut", 3, () -> tree.weight(-10));
  }

  private void weightAtTheLimits() {
    startFarApart("12: not above key, at the limits");
    due("weight(least)", 0, () -> tree.weight(LEAST));
    due("weight(-2^41 - 1)", 0, () -> tree.weight(-SLIDE_LIMIT - 1));
    due("weight(-2^41)", 1000, () -> tree.weight(-SLIDE_LIMIT));
    due("weight(2^40 - 1)", 1000, () -> tree.weight(PUT_LIMIT - 1));
    due("weight(2^40)", 1001, () -> tree.weight(PUT_LIMIT));
    due("weight(most)", 1001, () -> tree.weight(MOST));
    startWithAll("12: not above key, all there");
    due("weight(397)", 199_000, () -> tree.weight(397));
    due("weight(398)", 200_000, () -> tree.weight(398));
  }

  private void halfIsAtLeastHalf() {
    start("13: at least half of all");
    tree.put(1, 10, 0, 5);
    tree.put(2, 20, 0, 5);
    due("half(): 5 of 10", 1, () -> tree.half());
    tree.put(2, 20, 0, 6);
    due("half(): 5 of 11", 2, () -> tree.half());
    tree.put(2, 20, 0, 4);
    due("half(): 5 of 9", 1, () -> tree.half());
    tree.put(3, 30, 0, 9);
    due("half(): 9 of 18", 2, () -> tree.half());
    tree.put(3, 30, 0, 10);
    due("half(): 9 of 19", 3, () -> tree.half());
    tree.slide(-100);
    due("half() after a slide", 3, () -> tree.half());
    tree.drop(3);
    due("half() after a drop", 1, () -> tree.half());
  }

  private void halfOfAnOddWhole() {
    start("13: at least half of an odd whole");
    tree.put(1, 1, 0, 1);
    tree.put(2, 2, 0, 1);
    tree.put(3, 3, 0, 1);
    due("half(): 1 of 3 is not, 2 of 3 is", 2, () -> tree.half());
    tree.drop(3);
    tree.put(2, 2, 0, 2);
    due("half(): 1 of 3 is not", 2, () -> tree.half());
  }

  private void halfOfOne() {
    start("13: half of one");
    dueThrow("half() of none", NO_SUCH, () -> tree.half());
    tree.put(8, 5, 0, 1);
    due("half(): WEIGHT 1", 8, () -> tree.half());
    tree.put(8, -5, 0, 1000);
    due("half(): WEIGHT 1,000", 8, () -> tree.half());
    tree.drop(8);
    dueThrow("half() of none left", NO_SUCH, () -> tree.half());
  }

  private void halfOfEqualKeys() {
    start("13: The first ITEM in ORDER, equal KEYS");
    for (int n : new int[] {9, 3, 6, 0}) {
      tree.put(n, 7, -n, 10);
    }
    due("half(): 0 and 3 are half", 3, () -> tree.half());
    tree.put(0, 7, 0, 9);
    due("half(): 0 and 3 are not", 6, () -> tree.half());
    tree.put(9, 6, 0, 10);
    due("half(): 9 and 0 are not", 3, () -> tree.half());
  }

  private void halfOfAll() {
    startWithAll("13: half of all there");
    due("half(): 100 of 200", 99, () -> tree.half());
    tree.put(199, 398, 0, 999);
    due("half(): 100 are more than half", 99, () -> tree.half());
    tree.put(199, 398, 0, 1000);
    tree.put(0, 0, 0, 999);
    due("half(): 100 are less than half", 100, () -> tree.half());
    tree.drop(0);
    due("half(): of 199", 100, () -> tree.half());
  }

  private void halfHeavyFirstOrLast() {
    start("13: half, the first or the last is heavy");
    for (int n = 0; n < 101; n++) {
      tree.put(n, n, 0, 10);
    }
    tree.put(100, 100, 0, 1000);
    due("half(): the last is needed not", 99, () -> tree.half());
    tree.put(99, 99, 0, 9);
    due("half(): the last is needed", 100, () -> tree.half());
    tree.put(100, -1, 0, 1000);
    due("half(): the first will do", 100, () -> tree.half());
  }

  private void nearestOfFewerThanTwo() {
    start("14: there are not two");
    dueThrow("nearest() of none", NO_SUCH, () -> tree.nearest());
    tree.put(3, 5, 0, 1);
    dueThrow("nearest() of one", NO_SUCH, () -> tree.nearest());
    tree.put(3, 6, 0, 1);
    dueThrow("nearest() of one, put twice", NO_SUCH, () -> tree.nearest());
    tree.put(4, 16, 0, 1);
    due("nearest() of two", 10, () -> tree.nearest());
    tree.drop(3);
    dueThrow("nearest() of one left", NO_SUCH, () -> tree.nearest());
    tree.put(3, 6, 0, 1);
    tree.cut(7, 16);
    dueThrow("nearest() of one not cut", NO_SUCH, () -> tree.nearest());
    tree.drop(3);
    dueThrow("nearest() of none left", NO_SUCH, () -> tree.nearest());
  }

  private void nearestOfEqualKeys() {
    start("14: The least difference, of equal KEYS");
    tree.put(3, -5, 0, 1);
    tree.put(4, -5, 0, 1);
    due("nearest() of two", 0, () -> tree.nearest());
    tree.put(5, -4, 0, 1);
    due("nearest() of three", 0, () -> tree.nearest());
    tree.put(4, -2, 0, 1);
    due("nearest() when none are equal", 1, () -> tree.nearest());
    tree.slide(5);
    due("nearest() after a slide", 1, () -> tree.nearest());
    tree.put(9, 3, 0, 1);
    due("nearest(): equal after a slide", 0, () -> tree.nearest());
  }

  private void nearestIsNotOfTheEndsAlone() {
    start("14: The least difference, anywhere");
    long[] keys = {-70, -40, -20, 10, 50};
    for (int n = 0; n < keys.length; n++) {
      tree.put(n, keys[n], 0, 1);
    }
    due("nearest() of -40 and -20", 20, () -> tree.nearest());
    tree.put(10, 60, 0, 1);
    due("nearest() of the last two", 10, () -> tree.nearest());
    tree.put(11, -75, 0, 1);
    due("nearest() of the first two", 5, () -> tree.nearest());
    tree.put(12, -1, 0, 1);
    tree.put(13, 1, 0, 1);
    due("nearest() of two about zero", 2, () -> tree.nearest());
    tree.put(14, 0, 0, 1);
    due("nearest() of three about zero", 1, () -> tree.nearest());
  }

  private void nearestFarApart() {
    startFarApart("14: The least difference, far apart");
    due("nearest()", APART, () -> tree.nearest());
    due("slide(2^40)", -PUT_LIMIT, () -> tree.slide(PUT_LIMIT));
    due("nearest() after a slide", APART, () -> tree.nearest());
    startWithAll("14: The least difference, all there");
    due("nearest()", 2, () -> tree.nearest());
    tree.put(120, 239, 0, 1);
    due("nearest() of 119 and 120", 1, () -> tree.nearest());
  }

  private void cutTakesBothEnds() {
    startWithFour("15: KEY lies from one to another");
    due("cut(11, 19)", 0, () -> tree.cut(11, 19));
    due("cut(least, 9)", 0, () -> tree.cut(LEAST, 9));
    due("cut(51, most)", 0, () -> tree.cut(51, MOST));
    dueTheFour();
    due("cut(20, 50)", 3, () -> tree.cut(20, 50));
    dueOrder(7);
    due("cut(20, 50) again", 0, () -> tree.cut(20, 50));
    due("cut(10, 10)", 1, () -> tree.cut(10, 10));
    dueOrder();
    startWithFour("15: KEY lies from one to another, in the middle");
    due("cut(11, 49)", 2, () -> tree.cut(11, 49));
    dueOrder(7, 9);
    startWithFour("15: KEY lies from one to another, the first");
    due("cut(10, 19)", 1, () -> tree.cut(10, 19));
    dueOrder(2, 5, 9);
  }

  private void cutFromOneToAnother() {
    startWithFour("15: from one to a lesser one no KEY lies");
    due("cut(50, 10)", 0, () -> tree.cut(50, 10));
    due("cut(20, 19)", 0, () -> tree.cut(20, 19));
    due("cut(21, 20)", 0, () -> tree.cut(21, 20));
    due("cut(21, 19)", 0, () -> tree.cut(21, 19));
    due("cut(most, least)", 0, () -> tree.cut(MOST, LEAST));
    dueTheFour();
  }

  private void cutOfAFullTree() {
    startWithAll("15: there no more, of all");
    due("cut(1, 397)", 198, () -> tree.cut(1, 397));
    dueOrder(0, 199);
    due("count(1)", 2000, () -> tree.count(1));
    dueNotThere(1);
    dueNotThere(198);
    startWithAll("15: there no more, all");
    due("cut(0, 398)", 200, () -> tree.cut(0, 398));
    dueOrder();
    due("count(1)", 0, () -> tree.count(1));
  }

  private void cutAtTheLimits() {
    startFarApart("15: from one to another, at the limits");
    due("cut(-2^41 + 1, 2^40 - 1)", 0, () -> tree.cut(-SLIDE_LIMIT + 1, PUT_LIMIT - 1));
    due("cut(2^40 + 1, most)", 0, () -> tree.cut(PUT_LIMIT + 1, MOST));
    due("cut(least, -2^41 - 1)", 0, () -> tree.cut(LEAST, -SLIDE_LIMIT - 1));
    due("cut(least, -2^41)", 1, () -> tree.cut(LEAST, -SLIDE_LIMIT));
    dueOrder(0);
    due("cut(2^40, most)", 1, () -> tree.cut(PUT_LIMIT, MOST));
    dueOrder();
    startFarApart("15: from the least to the most");
    due("cut(least, most)", 2, () -> tree.cut(LEAST, MOST));
    dueOrder();
  }

  private void cutThenPutAgain() {
    startWithFour("15: there no more, until they are put");
    tree.cut(10, 20);
    due("put(5, 60, 7, 8)", 2, () -> tree.put(5, 60, 7, 8));
    dueOrder(9, 5);
    dueItem(5, 1, 60, 7, 8);
    due("half()", 5, () -> tree.half());
    due("earliest(most)", 9, () -> tree.earliest(MOST));
    due("ahead(9)", 50 * 11 - 630, () -> tree.ahead(9));
    dueNotThere(2);
    dueNotThere(7);
  }

  private void countOfItems() {
    start("16: 0 ITEMS");
    due("count(0) of none", 0, () -> tree.count(0));
    for (int n = 0; n < 200; n++) {
      int number = n;
      tree.put(n, 0, 0, 1);
      due("count(0)", number + 1, () -> tree.count(0));
    }
    tree.put(0, 1, 1, 1);
    due("count(0) after a put in place", 200, () -> tree.count(0));
    tree.drop(0);
    due("count(0) after a drop", 199, () -> tree.count(0));
    tree.slide(1);
    due("count(0) after a slide", 199, () -> tree.count(0));
    tree.cut(0, 1);
    due("count(0) after a cut", 0, () -> tree.count(0));
  }

  private void countOfWeights() {
    start("16: 1 WEIGHTS together");
    due("count(1) of none", 0, () -> tree.count(1));
    tree.put(4, 0, 0, 1);
    due("count(1) of 1", 1, () -> tree.count(1));
    tree.put(4, 0, 0, 1000);
    due("count(1) after a put in place", 1000, () -> tree.count(1));
    tree.put(5, 1, 0, 7);
    due("count(1) of two", 1007, () -> tree.count(1));
    tree.cut(0, 0);
    due("count(1) after a cut", 7, () -> tree.count(1));
    tree.drop(5);
    due("count(1) after a drop", 0, () -> tree.count(1));
    startWithAll("16: 1 WEIGHTS together, all there");
    due("count(1)", 200_000, () -> tree.count(1));
  }

  private void countOfFairOnes() {
    start("16: 2 FAIR ones");
    due("count(2) of none", 0, () -> tree.count(2));
    tree.put(4, 9, 0, 1);
    due("count(2) of one", 1, () -> tree.count(2));
    tree.put(5, 10, 0, 1);
    due("count(2) of two", 1, () -> tree.count(2));
    tree.put(6, 11, 0, 1);
    due("count(2) of three", 2, () -> tree.count(2));
    tree.slide(-10);
    due("count(2) after a slide", 2, () -> tree.count(2));
    tree.put(6, 0, 0, 1);
    due("count(2) after a put in place", 1, () -> tree.count(2));
    tree.drop(4);
    due("count(2) of two with equal KEYS", 2, () -> tree.count(2));
    startWithAll("16: 2 FAIR ones, all there");
    due("count(2)", 100, () -> tree.count(2));
  }

  private void countElse() {
    start("16: Else -1");
    int[] others = {-1, 3, -2, 4, 256, 257, 258, Integer.MIN_VALUE, Integer.MAX_VALUE};
    for (int what : others) {
      due("count(" + what + ") of none", -1, () -> tree.count(what));
    }
    tree.put(1, 2, 3, 4);
    for (int what : others) {
      due("count(" + what + ") of one", -1, () -> tree.count(what));
    }
  }

  private void lastCall() {
    start("at most 512 calls");
    for (int call = 0; call < 510; call += 2) {
      int n = call / 2 % 200;
      due("put(" + n + ")", 1, () -> tree.put(n, n, n, 1000));
      due("drop(" + n + ")", 1000, () -> tree.drop(n));
    }
    due("the 511th call", 1, () -> tree.put(199, PUT_LIMIT, MOST, 7));
    due("the 512th call", 7, () -> tree.drop(199));
  }
}
