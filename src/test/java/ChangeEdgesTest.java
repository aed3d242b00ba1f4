/** The edges of the calls that change: put, drop, slide and cut, promises 2 to 4 and 15. */
public final class ChangeEdgesTest extends TreeChecks {
  public static void main(String[] args) {
    ChangeEdgesTest test = new ChangeEdgesTest();
    test.putInPlaceTakesAll();
    test.putInPlaceAtTheSameKey();
    test.putAnswersHowMany();
    test.putOfAllNumbers();
    test.putRefusesOneByOne();
    test.dropOfFirstMiddleLast();
    test.dropOfAFullTree();
    test.dropAnswersTheWeight();
    test.slideOfAllKeys();
    test.slideAnswersTheLeastKey();
    test.slideBelowTheLeast();
    test.slideAboveTheMost();
    test.slideByWhatWouldWrap();
    test.slideOfTwoByWhatWouldWrap();
    test.slideLooksAtEachKey();
    test.slidesAddUp();
    test.slideIsNotForLaterItems();
    test.cutTakesBothEnds();
    test.cutFromOneToAnother();
    test.cutOfAFullTree();
    test.cutAtTheLimits();
    test.cutThenPutAgain();
    test.lastCall();
    test.end();
  }

  private void putInPlaceTakesAll() {
    startWithFour("2: in place of what it was");
    due("put(7, 60, -5, 1000)", 4, () -> tree.put(7, 60, -5, 1000));
    dueOrder(2, 5, 9, 7);
    dueItem(7, 3, 60, -5, 1000);
    due("count(1)", 1006, () -> tree.count(1));
    due("earliest(most)", 7, () -> tree.earliest(MOST));
    due("weight(10): no KEY of 10 is left", 0, () -> tree.weight(10));
    due("put(7, 30, 0, 1)", 4, () -> tree.put(7, 30, 0, 1));
    dueOrder(2, 5, 7, 9);
    dueItem(7, 2, 30, 0, 1);
    due("drop(7)", 1, () -> tree.drop(7));
    dueOrder(2, 5, 9);
  }

  private void putInPlaceAtTheSameKey() {
    startWithFour("2: in place of what it was, at the same KEY");
    due("put(5, 20, 1, 2), as it was", 4, () -> tree.put(5, 20, 1, 2));
    dueTheFour();
    due("put(2, 20, 0, 5)", 4, () -> tree.put(2, 20, 0, 5));
    dueItem(2, 1, 20, 0, 5);
    dueItem(5, 2, 20, 1, 2);
    due("earliest(20)", 2, () -> tree.earliest(20));
    due("count(1)", 14, () -> tree.count(1));
  }

  private void putAnswersHowMany() {
    start("2: how many are there");
    due("put(4)", 1, () -> tree.put(4, 0, 0, 1));
    due("put(4) again", 1, () -> tree.put(4, 1, 1, 2));
    due("put(3)", 2, () -> tree.put(3, 0, 0, 1));
    tree.drop(4);
    due("put(2) after a drop", 2, () -> tree.put(2, 5, 0, 1));
    tree.cut(0, 0);
    due("put(1) after a cut", 2, () -> tree.put(1, 0, 0, 1));
    tree.cut(LEAST, MOST);
    due("put(1) after a cut of all", 1, () -> tree.put(1, 0, 0, 1));
  }

  private void putOfAllNumbers() {
    start("2: how many are there, up to all");
    for (int n = 0; n < 200; n++) {
      int number = (n * 77) % 200;
      due("put(" + number + ")", n + 1, () -> tree.put(number, -number, number, 1000));
    }
    due("put(0) again", 200, () -> tree.put(0, -PUT_LIMIT, 5, 1));
    dueItem(0, 0, -PUT_LIMIT, 5, 1);
    due("put(0) again", 200, () -> tree.put(0, PUT_LIMIT, 6, 2));
    dueItem(0, 199, PUT_LIMIT, 6, 2);
    due("drop(100)", 1000, () -> tree.drop(100));
    due("put(100)", 200, () -> tree.put(100, 0, 7, 3));
    dueItem(100, 198, 0, 7, 3);
  }

  private void putRefusesOneByOne() {
    start("2: another number, KEY or WEIGHT than can be");
    dueThrow("number alone, below", ILLEGAL, () -> tree.put(-1, 0, 0, 1));
    dueThrow("number alone, above", ILLEGAL, () -> tree.put(200, 0, 0, 1));
    dueThrow("KEY alone, below", ILLEGAL, () -> tree.put(0, -PUT_LIMIT - 1, 0, 1));
    dueThrow("KEY alone, above", ILLEGAL, () -> tree.put(0, PUT_LIMIT + 1, 0, 1));
    dueThrow("WEIGHT alone, below", ILLEGAL, () -> tree.put(0, 0, 0, 0));
    dueThrow("WEIGHT alone, above", ILLEGAL, () -> tree.put(0, 0, 0, 1001));
    dueThrow("all at once", ILLEGAL, () -> tree.put(200, PUT_LIMIT + 1, 0, 1001));
    due("none of them, low", 1, () -> tree.put(0, -PUT_LIMIT, LEAST, 1));
    due("none of them, high", 2, () -> tree.put(199, PUT_LIMIT, MOST, 1000));
  }

  private void dropOfFirstMiddleLast() {
    startWithFour("3: there no more, the first");
    due("drop(7)", 4, () -> tree.drop(7));
    dueOrder(2, 5, 9);
    startWithFour("3: there no more, one in the middle");
    due("drop(2)", 1, () -> tree.drop(2));
    dueOrder(7, 5, 9);
    startWithFour("3: there no more, the last");
    due("drop(9)", 3, () -> tree.drop(9));
    dueOrder(7, 2, 5);
    due("drop(7)", 4, () -> tree.drop(7));
    due("drop(5)", 2, () -> tree.drop(5));
    due("drop(2), the only one", 1, () -> tree.drop(2));
    dueOrder();
    dueThrow("drop(2) again", NO_SUCH, () -> tree.drop(2));
  }

  private void dropOfAFullTree() {
    startWithAll("3: there no more, of all");
    for (int n = 0; n < 200; n++) {
      int number = (n * 77 + 50) % 200;
      due("drop(" + number + ")", 1000, () -> tree.drop(number));
    }
    dueOrder();
    due("count(1)", 0, () -> tree.count(1));
    due("put(199, 1, 2, 3)", 1, () -> tree.put(199, 1, 2, 3));
    dueItem(199, 0, 1, 2, 3);
  }

  private void dropAnswersTheWeight() {
    start("3: its WEIGHT");
    tree.put(0, 5, 6, 1);
    tree.put(199, 7, 8, 1000);
    tree.put(50, 7, 8, 10);
    tree.put(50, 7, 8, 11);
    due("drop(0)", 1, () -> tree.drop(0));
    due("drop(199)", 1000, () -> tree.drop(199));
    due("drop(50), put twice", 11, () -> tree.drop(50));
  }

  private void slideOfAllKeys() {
    startWithAll("4: All KEYS become by more");
    due("slide(-1001)", -1001, () -> tree.slide(-1001));
    for (int n = 0; n < 200; n++) {
      int number = n;
      due("told(" + n + ", 0)", 2 * n - 1001, () -> tree.told(number, 0));
    }
    dueItem(0, 0, -1001, 0, 1000);
    dueItem(199, 199, 398 - 1001, -199, 1000);
    due("count(2)", 100, () -> tree.count(2));
    due("nearest()", 2, () -> tree.nearest());
  }

  private void slideAnswersTheLeastKey() {
    start("4: the least KEY then");
    tree.put(1, 5, 0, 1);
    due("slide(-5)", 0, () -> tree.slide(-5));
    tree.put(0, 1, 0, 1);
    due("slide(0): the KEY of 1, not of the least number", 0, () -> tree.slide(0));
    tree.put(2, -1, 0, 1);
    due("slide(10): the KEY of 2", 9, () -> tree.slide(10));
    tree.drop(2);
    due("slide(-20): the KEY of 1 again", -10, () -> tree.slide(-20));
  }

  private void slideBelowTheLeast() {
    start("4: some KEY would be below -2^41");
    tree.put(1, 100, 0, 1);
    dueThrow("slide(-2^41 - 101)", ILLEGAL, () -> tree.slide(-SLIDE_LIMIT - 101));
    due("slide(-2^41 - 100)", -SLIDE_LIMIT, () -> tree.slide(-SLIDE_LIMIT - 100));
    dueThrow("slide(-1)", ILLEGAL, () -> tree.slide(-1));
    due("slide(0)", -SLIDE_LIMIT, () -> tree.slide(0));
    due("slide(1)", -SLIDE_LIMIT + 1, () -> tree.slide(1));
    due("slide(-1)", -SLIDE_LIMIT, () -> tree.slide(-1));
    due("told(1, 0)", -SLIDE_LIMIT, () -> tree.told(1, 0));
  }

  private void slideAboveTheMost() {
    start("4: some KEY would be above 2^41");
    tree.put(1, -100, 0, 1);
    dueThrow("slide(2^41 + 101)", ILLEGAL, () -> tree.slide(SLIDE_LIMIT + 101));
    due("slide(2^41 + 100)", SLIDE_LIMIT, () -> tree.slide(SLIDE_LIMIT + 100));
    dueThrow("slide(1)", ILLEGAL, () -> tree.slide(1));
    due("slide(0)", SLIDE_LIMIT, () -> tree.slide(0));
    due("slide(-1)", SLIDE_LIMIT - 1, () -> tree.slide(-1));
    due("slide(1)", SLIDE_LIMIT, () -> tree.slide(1));
    due("told(1, 0)", SLIDE_LIMIT, () -> tree.told(1, 0));
  }

  private void slideByWhatWouldWrap() {
    for (long key : new long[] {-SLIDE_LIMIT, -PUT_LIMIT, -1, 0, 1, PUT_LIMIT, SLIDE_LIMIT}) {
      start("4: a KEY of " + key + " that would wrap around");
      tree.put(1, key / 2, 5, 6);
      tree.slide(key - key / 2);
      dueTooFar();
      dueItem(1, 0, key, 5, 6);
    }
  }

  /** One KEY wraps around and the other does not: neither sum alone shows that by is too much. */
  private void slideOfTwoByWhatWouldWrap() {
    startFarApart("4: one of two KEYS would wrap around");
    dueTooFar();
    dueItem(1, 0, -SLIDE_LIMIT, 1, 1000);
    dueItem(0, 1, PUT_LIMIT, 0, 1);
    start("4: one of two near KEYS would wrap around");
    tree.put(1, -1, 2, 3);
    tree.put(0, 1, 4, 5);
    dueTooFar();
    dueItem(1, 0, -1, 2, 3);
    dueItem(0, 1, 1, 4, 5);
  }

  private void dueTooFar() {
    long[] tooFar = {MOST, MOST - 1, LEAST, LEAST + 1, MOST - SLIDE_LIMIT, LEAST + SLIDE_LIMIT};
    for (long by : tooFar) {
      dueThrow("slide(" + by + ")", ILLEGAL, () -> tree.slide(by));
    }
  }

  private void slideLooksAtEachKey() {
    start("4: some KEY, and be it one of many");
    for (int n = 0; n < 100; n++) {
      tree.put(n, n, 0, 1);
    }
    tree.put(150, PUT_LIMIT, 0, 1);
    tree.put(120, -PUT_LIMIT, 0, 1);
    dueThrow("slide(2^40 + 1): 150", ILLEGAL, () -> tree.slide(PUT_LIMIT + 1));
    dueThrow("slide(-2^40 - 1): 120", ILLEGAL, () -> tree.slide(-PUT_LIMIT - 1));
    tree.drop(150);
    due("slide(2^40 + 1) without 150", 1, () -> tree.slide(PUT_LIMIT + 1));
    due("slide(-2^40 - 1)", -PUT_LIMIT, () -> tree.slide(-PUT_LIMIT - 1));
    tree.cut(-PUT_LIMIT, -1);
    due("slide(-2^40 - 1) without 120", -PUT_LIMIT - 1, () -> tree.slide(-PUT_LIMIT - 1));
  }

  private void slidesAddUp() {
    start("4: KEYS after many slides");
    tree.put(1, 0, 0, 1);
    long step = SLIDE_LIMIT / 64;
    for (int slides = 1; slides <= 64; slides++) {
      long key = slides * step;
      due("slide " + slides, key, () -> tree.slide(step));
    }
    dueThrow("slide 65", ILLEGAL, () -> tree.slide(step));
    for (int slides = 1; slides <= 128; slides++) {
      long key = SLIDE_LIMIT - slides * step;
      due("slide back " + slides, key, () -> tree.slide(-step));
    }
    dueThrow("slide back 129", ILLEGAL, () -> tree.slide(-step));
  }

  private void slideIsNotForLaterItems() {
    start("4: All KEYS, not those put later");
    tree.put(1, 5, 0, 1);
    tree.slide(100);
    due("put(2, 5)", 2, () -> tree.put(2, 5, 0, 1));
    due("told(2, 0)", 5, () -> tree.told(2, 0));
    due("put(1, 5) again", 2, () -> tree.put(1, 5, 0, 1));
    due("told(1, 0)", 5, () -> tree.told(1, 0));
    tree.slide(100);
    tree.cut(LEAST, MOST);
    due("put(3, 5) when none was left", 1, () -> tree.put(3, 5, 0, 1));
    due("told(3, 0)", 5, () -> tree.told(3, 0));
  }

  private void cutTakesBothEnds() {
    startWithFour("15: KEY lies from one to another");
    due("cut(11, 19)", 0, () -> tree.cut(11, 19));
    due("cut(least, 9)", 0, () -> tree.cut(LEAST, 9));
    due("cut(51, most)", 0, () -> tree.cut(51, MOST));
    dueTheFour();
    due("cut(20, 50)", 3, () -> tree.cut(20, 50));
    dueOrder(7);
    due("cut(20, 50) again", 0, () -> tree.cut(20, 50));
    due("cut(10, 10)", 1, () -> tree.cut(10, 10));
    dueOrder();
    startWithFour("15: KEY lies from one to another, in the middle");
    due("cut(11, 49)", 2, () -> tree.cut(11, 49));
    dueOrder(7, 9);
    startWithFour("15: KEY lies from one to another, the first");
    due("cut(10, 19)", 1, () -> tree.cut(10, 19));
    dueOrder(2, 5, 9);
  }

  private void cutFromOneToAnother() {
    startWithFour("15: from one to a lesser one no KEY lies");
    due("cut(50, 10)", 0, () -> tree.cut(50, 10));
    due("cut(20, 19)", 0, () -> tree.cut(20, 19));
    due("cut(21, 20)", 0, () -> tree.cut(21, 20));
    due("cut(21, 19)", 0, () -> tree.cut(21, 19));
    due("cut(most, least)", 0, () -> tree.cut(MOST, LEAST));
    dueTheFour();
  }

  private void cutOfAFullTree() {
    startWithAll("15: there no more, of all");
    due("cut(1, 397)", 198, () -> tree.cut(1, 397));
    dueOrder(0, 199);
    due("count(1)", 2000, () -> tree.count(1));
    dueNotThere(1);
    dueNotThere(198);
    startWithAll("15: there no more, all");
    due("cut(0, 398)", 200, () -> tree.cut(0, 398));
    dueOrder();
    due("count(1)", 0, () -> tree.count(1));
  }

  private void cutAtTheLimits() {
    startFarApart("15: from one to another, at the limits");
    due("cut(-2^41 + 1, 2^40 - 1)", 0, () -> tree.cut(-SLIDE_LIMIT + 1, PUT_LIMIT - 1));
    due("cut(2^40 + 1, most)", 0, () -> tree.cut(PUT_LIMIT + 1, MOST));
    due("cut(least, -2^41 - 1)", 0, () -> tree.cut(LEAST, -SLIDE_LIMIT - 1));
    due("cut(least, -2^41)", 1, () -> tree.cut(LEAST, -SLIDE_LIMIT));
    dueOrder(0);
    due("cut(2^40, most)", 1, () -> tree.cut(PUT_LIMIT, MOST));
    dueOrder();
    startFarApart("15: from the least to the most");
    due("cut(least, most)", 2, () -> tree.cut(LEAST, MOST));
    dueOrder();
  }

  private void cutThenPutAgain() {
    startWithFour("15: there no more, until they are put");
    tree.cut(10, 20);
    due("put(5, 60, 7, 8)", 2, () -> tree.put(5, 60, 7, 8));
    dueOrder(9, 5);
    dueItem(5, 1, 60, 7, 8);
    due("half()", 5, () -> tree.half());
    due("earliest(most)", 9, () -> tree.earliest(MOST));
    due("ahead(9)", 50 * 11 - 630, () -> tree.ahead(9));
    dueNotThere(2);
    dueNotThere(7);
  }

  private void lastCall() {
    start("at most 512 calls");
    for (int call = 0; call < 510; call += 2) {
      int n = call / 2 % 200;
      due("put(" + n + ")", 1, () -> tree.put(n, n, n, 1000));
      due("drop(" + n + ")", 1000, () -> tree.drop(n));
    }
    due("the 511th call", 1, () -> tree.put(199, PUT_LIMIT, MOST, 7));
    due("the 512th call", 7, () -> tree.drop(199));
  }
}
