/** One method for each promise of the document: ordinary inputs, its edges and wrong inputs. */
public final class PromisesTest extends TreeChecks {
  public static void main(String[] args) {
    PromisesTest test = new PromisesTest();
    test.newObject();
    test.firstExceptionBehindThrows();
    test.throwingChangesNothing();
    test.put();
    test.putInPlaceOfWhatWas();
    test.putAllNumbers();
    test.drop();
    test.slide();
    test.slideToTheLimits();
    test.told();
    test.at();
    test.rank();
    test.earliest();
    test.between();
    test.pick();
    test.pickAtTheLimits();
    test.ahead();
    test.aheadAtTheLimits();
    test.weight();
    test.half();
    test.nearest();
    test.cut();
    test.count();
    test.end();
  }

  private void newObject() {
    start("1, new object");
    due("count(0)", 0, () -> tree.count(0));
    due("count(1)", 0, () -> tree.count(1));
    due("count(2)", 0, () -> tree.count(2));
    for (int n = 0; n < 200; n++) {
      int number = n;
      dueThrow("told(" + n + ", 0)", NO_SUCH, () -> tree.told(number, 0));
    }
    FairTree other = new FairTree();
    other.put(1, 1, 1, 1);
    due("count(0) beside another object", 0, () -> tree.count(0));
  }

  private void firstExceptionBehindThrows() {
    start("1, two exceptions");
    dueThrow("told(0, 3)", NO_SUCH, () -> tree.told(0, 3));
    dueThrow("told(-1, -1)", NO_SUCH, () -> tree.told(-1, -1));
    dueThrow("slide(most)", NO_SUCH, () -> tree.slide(Long.MAX_VALUE));
    dueThrow("slide(least)", NO_SUCH, () -> tree.slide(Long.MIN_VALUE));
  }

  private void throwingChangesNothing() {
    startWithFour("1, a call that throws");
    dueThrow("put(200, 0, 0, 1)", ILLEGAL, () -> tree.put(200, 0, 0, 1));
    dueThrow("put(5, too much, 9, 9)", ILLEGAL, () -> tree.put(5, PUT_LIMIT + 1, 9, 9));
    dueThrow("put(5, 9, 9, 0)", ILLEGAL, () -> tree.put(5, 9, 9, 0));
    dueThrow("put(3, 9, 9, 1001)", ILLEGAL, () -> tree.put(3, 9, 9, 1001));
    dueThrow("drop(3)", NO_SUCH, () -> tree.drop(3));
    dueThrow("slide(too far)", ILLEGAL, () -> tree.slide(SLIDE_LIMIT - 49));
    dueThrow("told(5, 3)", ILLEGAL, () -> tree.told(5, 3));
    dueThrow("at(4)", NO_SUCH, () -> tree.at(4));
    dueThrow("between(51, 60)", NO_SUCH, () -> tree.between(51, 60));
    dueTheFour();
  }

  private void put() {
    start("2, put");
    due("put(0, least, least, 1)", 1, () -> tree.put(0, -PUT_LIMIT, Long.MIN_VALUE, 1));
    due("put(199, most, most, 1000)", 2, () -> tree.put(199, PUT_LIMIT, Long.MAX_VALUE, 1000));
    dueItem(0, 0, -PUT_LIMIT, Long.MIN_VALUE, 1);
    dueItem(199, 1, PUT_LIMIT, Long.MAX_VALUE, 1000);
    due("put(7, 3, 4, 5)", 3, () -> tree.put(7, 3, 4, 5));
    dueItem(7, 1, 3, 4, 5);
    dueThrow("put(-1, 0, 0, 1)", ILLEGAL, () -> tree.put(-1, 0, 0, 1));
    dueThrow("put(200, 0, 0, 1)", ILLEGAL, () -> tree.put(200, 0, 0, 1));
    dueThrow("put(least int, 0, 0, 1)", ILLEGAL, () -> tree.put(Integer.MIN_VALUE, 0, 0, 1));
    dueThrow("put(most int, 0, 0, 1)", ILLEGAL, () -> tree.put(Integer.MAX_VALUE, 0, 0, 1));
    dueThrow("put(1, above, 0, 1)", ILLEGAL, () -> tree.put(1, PUT_LIMIT + 1, 0, 1));
    dueThrow("put(1, below, 0, 1)", ILLEGAL, () -> tree.put(1, -PUT_LIMIT - 1, 0, 1));
    dueThrow("put(1, most, 0, 1)", ILLEGAL, () -> tree.put(1, Long.MAX_VALUE, 0, 1));
    dueThrow("put(1, least, 0, 1)", ILLEGAL, () -> tree.put(1, Long.MIN_VALUE, 0, 1));
    dueThrow("put(1, 0, 0, 0)", ILLEGAL, () -> tree.put(1, 0, 0, 0));
    dueThrow("put(1, 0, 0, -1)", ILLEGAL, () -> tree.put(1, 0, 0, -1));
    dueThrow("put(1, 0, 0, 1001)", ILLEGAL, () -> tree.put(1, 0, 0, 1001));
    due("count(0)", 3, () -> tree.count(0));
  }

  private void putInPlaceOfWhatWas() {
    startWithFour("2, put in place of what was");
    due("put(7, 60, 2, 9)", 4, () -> tree.put(7, 60, 2, 9));
    dueItem(2, 0, 20, 6, 1);
    dueItem(7, 3, 60, 2, 9);
    due("count(1)", 15, () -> tree.count(1));
    due("put(7, 60, 3, 1)", 4, () -> tree.put(7, 60, 3, 1));
    dueItem(7, 3, 60, 3, 1);
    due("put(9, -1, 0, 3)", 4, () -> tree.put(9, -1, 0, 3));
    dueItem(9, 0, -1, 0, 3);
    due("count(1)", 7, () -> tree.count(1));
  }

  private void putAllNumbers() {
    start("2, all numbers");
    for (int n = 0; n < 200; n++) {
      int number = n;
      due("put(" + n + ")", n + 1, () -> tree.put(number, -number, 0, 1000));
    }
    due("put(100) again", 200, () -> tree.put(100, -1000, 0, 1000));
    due("count(1)", 200_000, () -> tree.count(1));
    due("at(0)", 100, () -> tree.at(0));
    due("at(199)", 0, () -> tree.at(199));
  }

  private void drop() {
    startWithFour("3, drop");
    due("drop(2)", 1, () -> tree.drop(2));
    dueThrow("drop(2) again", NO_SUCH, () -> tree.drop(2));
    dueThrow("told(2, 0)", NO_SUCH, () -> tree.told(2, 0));
    dueThrow("drop(-1)", NO_SUCH, () -> tree.drop(-1));
    dueThrow("drop(200)", NO_SUCH, () -> tree.drop(200));
    dueItem(7, 0, 10, 6, 4);
    dueItem(5, 1, 20, 1, 2);
    dueItem(9, 2, 50, 0, 3);
    due("drop(9)", 3, () -> tree.drop(9));
    due("drop(7)", 4, () -> tree.drop(7));
    due("drop(5)", 2, () -> tree.drop(5));
    due("count(0)", 0, () -> tree.count(0));
    due("put(2, 1, 2, 3)", 1, () -> tree.put(2, 1, 2, 3));
    dueItem(2, 0, 1, 2, 3);
  }

  private void slide() {
    startWithFour("4, slide");
    due("slide(5)", 15, () -> tree.slide(5));
    dueItem(7, 0, 15, 6, 4);
    dueItem(2, 1, 25, 6, 1);
    dueItem(5, 2, 25, 1, 2);
    dueItem(9, 3, 55, 0, 3);
    due("slide(-30)", -15, () -> tree.slide(-30));
    due("slide(0)", -15, () -> tree.slide(0));
    due("told(9, 0)", 25, () -> tree.told(9, 0));
    due("put(1, -15, 0, 1)", 5, () -> tree.put(1, -15, 0, 1));
    due("at(0)", 1, () -> tree.at(0));
    due("drop(9)", 3, () -> tree.drop(9));
    due("put(9, 0, 0, 1) after a slide", 5, () -> tree.put(9, 0, 0, 1));
    due("told(9, 0)", 0, () -> tree.told(9, 0));
  }

  private void slideToTheLimits() {
    start("4, slide to the limits");
    dueThrow("slide(0)", NO_SUCH, () -> tree.slide(0));
    tree.put(0, PUT_LIMIT, 0, 1);
    dueThrow("slide(2^40 + 1)", ILLEGAL, () -> tree.slide(PUT_LIMIT + 1));
    due("slide(2^40)", SLIDE_LIMIT, () -> tree.slide(PUT_LIMIT));
    dueThrow("slide(1)", ILLEGAL, () -> tree.slide(1));
    dueThrow("slide(most)", ILLEGAL, () -> tree.slide(Long.MAX_VALUE));
    dueThrow("slide(least)", ILLEGAL, () -> tree.slide(Long.MIN_VALUE));
    dueThrow("slide(-2^42 - 1)", ILLEGAL, () -> tree.slide(-2 * SLIDE_LIMIT - 1));
    due("slide(-2^42)", -SLIDE_LIMIT, () -> tree.slide(-2 * SLIDE_LIMIT));
    dueThrow("slide(-1)", ILLEGAL, () -> tree.slide(-1));
    dueThrow("slide(least)", ILLEGAL, () -> tree.slide(Long.MIN_VALUE));
    dueThrow("slide(most)", ILLEGAL, () -> tree.slide(Long.MAX_VALUE));
    tree.put(1, PUT_LIMIT, 0, 1);
    dueThrow("slide(-1) with two", ILLEGAL, () -> tree.slide(-1));
    dueThrow("slide(2^40 + 1) with two", ILLEGAL, () -> tree.slide(PUT_LIMIT + 1));
    dueThrow("slide(most) with two", ILLEGAL, () -> tree.slide(Long.MAX_VALUE));
    dueThrow("slide(least) with two", ILLEGAL, () -> tree.slide(Long.MIN_VALUE));
    due("slide(2^40) with two", -PUT_LIMIT, () -> tree.slide(PUT_LIMIT));
    due("told(1, 0)", SLIDE_LIMIT, () -> tree.told(1, 0));
  }

  private void told() {
    start("5, told");
    tree.put(0, -7, Long.MIN_VALUE, 1000);
    tree.put(199, 8, Long.MAX_VALUE, 1);
    dueItem(0, 0, -7, Long.MIN_VALUE, 1000);
    dueItem(199, 1, 8, Long.MAX_VALUE, 1);
    dueThrow("told(0, 3)", ILLEGAL, () -> tree.told(0, 3));
    dueThrow("told(0, -1)", ILLEGAL, () -> tree.told(0, -1));
    dueThrow("told(1, 0)", NO_SUCH, () -> tree.told(1, 0));
    dueThrow("told(-1, 0)", NO_SUCH, () -> tree.told(-1, 0));
    dueThrow("told(200, 0)", NO_SUCH, () -> tree.told(200, 0));
    dueThrow("told(1, 3)", NO_SUCH, () -> tree.told(1, 3));
  }

  private void at() {
    start("6, at");
    dueThrow("at(0) of none", NO_SUCH, () -> tree.at(0));
    startWithFour("6, at");
    due("at(0)", 7, () -> tree.at(0));
    due("at(1), equal keys by numbers", 2, () -> tree.at(1));
    due("at(2), equal keys by numbers", 5, () -> tree.at(2));
    due("at(3)", 9, () -> tree.at(3));
    dueThrow("at(4)", NO_SUCH, () -> tree.at(4));
    dueThrow("at(-1)", NO_SUCH, () -> tree.at(-1));
    dueThrow("at(least)", NO_SUCH, () -> tree.at(Integer.MIN_VALUE));
    dueThrow("at(most)", NO_SUCH, () -> tree.at(Integer.MAX_VALUE));
  }

  private void rank() {
    startWithFour("7, rank");
    due("rank(7)", 0, () -> tree.rank(7));
    due("rank(2)", 1, () -> tree.rank(2));
    due("rank(5)", 2, () -> tree.rank(5));
    due("rank(9)", 3, () -> tree.rank(9));
    dueThrow("rank(3)", NO_SUCH, () -> tree.rank(3));
    dueThrow("rank(-1)", NO_SUCH, () -> tree.rank(-1));
    dueThrow("rank(200)", NO_SUCH, () -> tree.rank(200));
  }

  private void earliest() {
    start("8, earliest");
    dueThrow("earliest(most) of none", NO_SUCH, () -> tree.earliest(Long.MAX_VALUE));
    startWithFour("8, earliest");
    dueThrow("earliest(9)", NO_SUCH, () -> tree.earliest(9));
    dueThrow("earliest(least)", NO_SUCH, () -> tree.earliest(Long.MIN_VALUE));
    due("earliest(10)", 7, () -> tree.earliest(10));
    due("earliest(19)", 7, () -> tree.earliest(19));
    due("earliest(20)", 5, () -> tree.earliest(20));
    due("earliest(49)", 5, () -> tree.earliest(49));
    due("earliest(50)", 9, () -> tree.earliest(50));
    due("earliest(most)", 9, () -> tree.earliest(Long.MAX_VALUE));
    tree.drop(5);
    due("earliest(20), equal dues by numbers", 2, () -> tree.earliest(20));
    tree.put(199, 20, Long.MIN_VALUE, 1);
    tree.put(0, 0, Long.MAX_VALUE, 1);
    due("earliest(20) with the ends of dues", 199, () -> tree.earliest(20));
    due("earliest(0) with the ends of dues", 0, () -> tree.earliest(0));
  }

  private void between() {
    start("9, between");
    dueThrow("between(least, most) of none", NO_SUCH,
        () -> tree.between(Long.MIN_VALUE, Long.MAX_VALUE));
    startWithFour("9, between");
    due("between(10, 10)", 7, () -> tree.between(10, 10));
    due("between(11, 49)", 5, () -> tree.between(11, 49));
    due("between(20, 20)", 5, () -> tree.between(20, 20));
    due("between(10, 50)", 9, () -> tree.between(10, 50));
    due("between(50, most)", 9, () -> tree.between(50, Long.MAX_VALUE));
    due("between(least, 10)", 7, () -> tree.between(Long.MIN_VALUE, 10));
    due("between(least, most)", 9, () -> tree.between(Long.MIN_VALUE, Long.MAX_VALUE));
    dueThrow("between(21, 49)", NO_SUCH, () -> tree.between(21, 49));
    dueThrow("between(51, most)", NO_SUCH, () -> tree.between(51, Long.MAX_VALUE));
    dueThrow("between(50, 10)", NO_SUCH, () -> tree.between(50, 10));
    dueThrow("between(21, 19)", NO_SUCH, () -> tree.between(21, 19));
    dueThrow("between(most, least)", NO_SUCH,
        () -> tree.between(Long.MAX_VALUE, Long.MIN_VALUE));
    tree.drop(5);
    due("between(10, 20), equal dues by numbers", 2, () -> tree.between(10, 20));
  }

  private void pick() {
    start("10, pick");
    dueThrow("pick() of none", NO_SUCH, () -> tree.pick());
    startWithFour("10, pick");
    due("pick(): 9 has the least due and is not FAIR", 5, () -> tree.pick());
    tree.put(9, 31, 0, 3);
    tree.put(2, 19, 6, 1);
    tree.put(5, 20, 1, 1);
    due("pick(): 5 is just above its share", 2, () -> tree.pick());
    tree.put(8, -1, 6, 1);
    due("pick(), equal dues by numbers", 7, () -> tree.pick());
    start("10, pick of equal keys");
    tree.put(4, -3, 5, 7);
    tree.put(6, -3, 4, 9);
    due("pick()", 6, () -> tree.pick());
    tree.put(3, -3, 4, 2);
    due("pick(), equal dues by numbers", 3, () -> tree.pick());
  }

  private void pickAtTheLimits() {
    start("10, pick at the limits");
    for (int n = 0; n < 199; n++) {
      tree.put(n, PUT_LIMIT, -n, 1000);
    }
    // The others are above their share by 1 in some 2^58: a sum in doubles would not see it.
    tree.put(199, PUT_LIMIT - 1, 0, 1);
    due("pick()", 199, () -> tree.pick());
    due("slide(2^40)", SLIDE_LIMIT - 1, () -> tree.slide(PUT_LIMIT));
    due("pick() after slide(2^40)", 199, () -> tree.pick());
    due("slide(-2^42)", -SLIDE_LIMIT + 9, () -> tree.slide(-2 * SLIDE_LIMIT + 10));
    due("pick() after the slide back", 199, () -> tree.pick());
    due("count(2)", 1, () -> tree.count(2));
  }

  private void ahead() {
    startWithFour("11, ahead");
    due("ahead(7)", 10 * 10 - 250, () -> tree.ahead(7));
    due("ahead(2)", 20 * 10 - 250, () -> tree.ahead(2));
    due("ahead(9)", 50 * 10 - 250, () -> tree.ahead(9));
    dueThrow("ahead(3)", NO_SUCH, () -> tree.ahead(3));
    dueThrow("ahead(-1)", NO_SUCH, () -> tree.ahead(-1));
    dueThrow("ahead(200)", NO_SUCH, () -> tree.ahead(200));
    tree.slide(-1000);
    due("ahead(9) after a slide", 250, () -> tree.ahead(9));
    start("11, ahead of one");
    tree.put(3, -77, 0, 9);
    due("ahead(3)", 0, () -> tree.ahead(3));
  }

  private void aheadAtTheLimits() {
    start("11, ahead at the limits");
    tree.put(0, PUT_LIMIT, 0, 1);
    tree.slide(PUT_LIMIT);
    for (int n = 1; n < 200; n++) {
      tree.put(n, -PUT_LIMIT, 0, 1000);
    }
    long apart = SLIDE_LIMIT + PUT_LIMIT;
    due("ahead(0)", apart * 199_000, () -> tree.ahead(0));
    due("ahead(1)", -apart, () -> tree.ahead(1));
  }

  private void weight() {
    start("12, weight");
    due("weight(most) of none", 0, () -> tree.weight(Long.MAX_VALUE));
    startWithFour("12, weight");
    due("weight(9)", 0, () -> tree.weight(9));
    due("weight(10)", 4, () -> tree.weight(10));
    due("weight(19)", 4, () -> tree.weight(19));
    due("weight(20)", 7, () -> tree.weight(20));
    due("weight(50)", 10, () -> tree.weight(50));
    due("weight(most)", 10, () -> tree.weight(Long.MAX_VALUE));
    due("weight(least)", 0, () -> tree.weight(Long.MIN_VALUE));
  }

  private void half() {
    start("13, half");
    dueThrow("half() of none", NO_SUCH, () -> tree.half());
    tree.put(5, 0, 0, 1);
    due("half() of one", 5, () -> tree.half());
    startWithFour("13, half");
    due("half(): 5 of 10 is half", 2, () -> tree.half());
    tree.put(9, 50, 0, 4);
    due("half(): 5 of 11 is not", 5, () -> tree.half());
    tree.put(9, 50, 0, 7);
    due("half(): 7 of 14 is half", 5, () -> tree.half());
    tree.put(9, 50, 0, 8);
    due("half(): 7 of 15 is not", 9, () -> tree.half());
    tree.put(7, 10, 6, 11);
    due("half(): 11 of 22 is half", 7, () -> tree.half());
  }

  private void nearest() {
    start("14, nearest");
    dueThrow("nearest() of none", NO_SUCH, () -> tree.nearest());
    tree.put(0, PUT_LIMIT, 0, 1);
    dueThrow("nearest() of one", NO_SUCH, () -> tree.nearest());
    tree.slide(PUT_LIMIT);
    tree.put(1, -PUT_LIMIT, 0, 1);
    due("nearest() of two far ones", SLIDE_LIMIT + PUT_LIMIT, () -> tree.nearest());
    tree.put(2, 0, 0, 1);
    due("nearest() of three", PUT_LIMIT, () -> tree.nearest());
    tree.put(3, -8, 0, 1);
    due("nearest() in the middle", 8, () -> tree.nearest());
    tree.put(4, PUT_LIMIT - 1, 0, 1);
    tree.slide(-5);
    tree.put(0, PUT_LIMIT, 0, 1);
    due("nearest() at the end", 6, () -> tree.nearest());
    tree.put(5, -PUT_LIMIT, 0, 1);
    due("nearest() at the start", 5, () -> tree.nearest());
    tree.put(6, 1, 0, 1);
    tree.put(7, 1, 0, 1);
    due("nearest() of equal keys", 0, () -> tree.nearest());
    tree.drop(7);
    due("nearest() after a drop", 5, () -> tree.nearest());
  }

  private void cut() {
    start("15, cut");
    due("cut(least, most) of none", 0, () -> tree.cut(Long.MIN_VALUE, Long.MAX_VALUE));
    startWithFour("15, cut");
    due("cut(21, 49)", 0, () -> tree.cut(21, 49));
    due("cut(50, 10)", 0, () -> tree.cut(50, 10));
    due("cut(21, 19)", 0, () -> tree.cut(21, 19));
    due("cut(most, least)", 0, () -> tree.cut(Long.MAX_VALUE, Long.MIN_VALUE));
    due("count(0)", 4, () -> tree.count(0));
    due("cut(20, 20)", 2, () -> tree.cut(20, 20));
    dueThrow("told(2, 0)", NO_SUCH, () -> tree.told(2, 0));
    dueThrow("told(5, 0)", NO_SUCH, () -> tree.told(5, 0));
    dueItem(7, 0, 10, 6, 4);
    dueItem(9, 1, 50, 0, 3);
    due("count(1)", 7, () -> tree.count(1));
    due("put(5, 30, 3, 3)", 3, () -> tree.put(5, 30, 3, 3));
    dueItem(5, 1, 30, 3, 3);
    due("cut(10, 30)", 2, () -> tree.cut(10, 30));
    dueItem(9, 0, 50, 0, 3);
    due("cut(least, most)", 1, () -> tree.cut(Long.MIN_VALUE, Long.MAX_VALUE));
    due("count(0)", 0, () -> tree.count(0));
  }

  private void count() {
    startWithFour("16, count");
    due("count(0)", 4, () -> tree.count(0));
    due("count(1)", 10, () -> tree.count(1));
    due("count(2)", 3, () -> tree.count(2));
    due("count(3)", -1, () -> tree.count(3));
    due("count(-1)", -1, () -> tree.count(-1));
    due("count(least)", -1, () -> tree.count(Integer.MIN_VALUE));
    due("count(most)", -1, () -> tree.count(Integer.MAX_VALUE));
    tree.cut(20, 20);
    due("count(2) after a cut", 1, () -> tree.count(2));
    tree.put(9, 10, 0, 3);
    due("count(2) of equal keys", 2, () -> tree.count(2));
    tree.put(0, 11, 0, 1);
    due("count(2) just above the share", 2, () -> tree.count(2));
    tree.put(0, 9, 0, 1);
    due("count(2) just below the share", 1, () -> tree.count(2));
  }
}
