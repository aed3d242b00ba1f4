/** Which calls throw, with which exception, and that nothing is changed by them. */
public final class RefusalsTest extends TreeChecks {
  private static final int[] NO_NUMBERS = {-1, 200, Integer.MIN_VALUE, Integer.MAX_VALUE};

  public static void main(String[] args) {
    RefusalsTest test = new RefusalsTest();
    test.itemThatNeverWas();
    test.itemThatWasDropped();
    test.itemThatWasCut();
    test.itemWithoutANumber();
    test.noneSuchAtFirst();
    test.noneSuchAfterDrops();
    test.noneSuchAfterCut();
    test.noneSuchAmongSome();
    test.callsThatNeverThrow();
    test.firstOfTwoExceptionsOfTold();
    test.firstOfTwoExceptionsOfSlide();
    test.putThatThrowsChangesNothing();
    test.slideThatThrowsChangesNothing();
    test.questionThatThrowsChangesNothing();
    test.throwOfAFullTreeChangesNothing();
    test.throwOfAnEmptyTreeChangesNothing();
    test.end();
  }

  private void itemThatNeverWas() {
    startWithFour("NoSuchElementException: an ITEM that is not there, never put");
    for (int n : new int[] {0, 1, 3, 4, 6, 8, 10, 199}) {
      dueNotThere(n);
    }
    dueTheFour();
  }

  private void itemThatWasDropped() {
    startWithFour("NoSuchElementException: an ITEM that is not there, dropped");
    tree.drop(7);
    dueNotThere(7);
    tree.drop(9);
    dueNotThere(9);
    dueOrder(2, 5);
    tree.put(7, 1, 2, 3);
    dueItem(7, 0, 1, 2, 3);
    dueNotThere(9);
  }

  private void itemThatWasCut() {
    startWithFour("NoSuchElementException: an ITEM that is not there, cut");
    tree.cut(20, 50);
    dueNotThere(2);
    dueNotThere(5);
    dueNotThere(9);
    dueOrder(7);
    tree.put(5, 1, 2, 3);
    dueItem(5, 0, 1, 2, 3);
    dueNotThere(2);
  }

  private void itemWithoutANumber() {
    startWithFour("NoSuchElementException: an ITEM that is not there, no number");
    for (int n : NO_NUMBERS) {
      dueNotThere(n);
    }
    dueTheFour();
    startWithAll("NoSuchElementException: an ITEM that is not there, no number, all there");
    for (int n : NO_NUMBERS) {
      dueNotThere(n);
    }
  }

  private void noneSuchAtFirst() {
    start("NoSuchElementException: there is none such, at first");
    dueNoneSuch();
  }

  private void noneSuchAfterDrops() {
    startWithFour("NoSuchElementException: there is none such, all dropped");
    tree.slide(5);
    for (int n : new int[] {2, 9, 5, 7}) {
      tree.drop(n);
    }
    dueNoneSuch();
  }

  private void noneSuchAfterCut() {
    startWithFour("NoSuchElementException: there is none such, all cut");
    tree.slide(-5);
    tree.cut(5, 45);
    dueNoneSuch();
  }

  private void dueNoneSuch() {
    dueThrow("slide(0)", NO_SUCH, () -> tree.slide(0));
    dueThrow("slide(1)", NO_SUCH, () -> tree.slide(1));
    dueThrow("at(0)", NO_SUCH, () -> tree.at(0));
    dueThrow("at(-1)", NO_SUCH, () -> tree.at(-1));
    dueThrow("earliest(0)", NO_SUCH, () -> tree.earliest(0));
    dueThrow("earliest(most)", NO_SUCH, () -> tree.earliest(MOST));
    dueThrow("between(0, 0)", NO_SUCH, () -> tree.between(0, 0));
    dueThrow("between(least, most)", NO_SUCH, () -> tree.between(LEAST, MOST));
    dueThrow("pick()", NO_SUCH, () -> tree.pick());
    dueThrow("half()", NO_SUCH, () -> tree.half());
    dueThrow("nearest()", NO_SUCH, () -> tree.nearest());
    due("weight(most)", 0, () -> tree.weight(MOST));
    due("cut(least, most)", 0, () -> tree.cut(LEAST, MOST));
    due("count(0)", 0, () -> tree.count(0));
    due("count(1)", 0, () -> tree.count(1));
    due("count(2)", 0, () -> tree.count(2));
    due("count(3)", -1, () -> tree.count(3));
  }

  private void noneSuchAmongSome() {
    startWithFour("NoSuchElementException: there is none such, among some");
    dueThrow("at(4)", NO_SUCH, () -> tree.at(4));
    dueThrow("at(-1)", NO_SUCH, () -> tree.at(-1));
    dueThrow("earliest(9)", NO_SUCH, () -> tree.earliest(9));
    dueThrow("between(11, 19)", NO_SUCH, () -> tree.between(11, 19));
    tree.cut(11, 50);
    dueThrow("nearest() of one", NO_SUCH, () -> tree.nearest());
    due("pick() of one", 7, () -> tree.pick());
    due("half() of one", 7, () -> tree.half());
  }

  private void callsThatNeverThrow() {
    startWithFour("weight, cut and count throw nothing");
    long[] ends = {LEAST, LEAST + 1, -SLIDE_LIMIT - 1, -1, 9};
    for (long key : ends) {
      due("weight(" + key + ")", 0, () -> tree.weight(key));
      due("cut(" + key + ", 9)", 0, () -> tree.cut(key, 9));
      due("cut(9, " + key + ")", 0, () -> tree.cut(9, key));
      due("cut(most, " + key + ")", 0, () -> tree.cut(MOST, key));
      due("cut(" + key + ", least)", 0, () -> tree.cut(key, LEAST));
    }
    for (int what : new int[] {Integer.MIN_VALUE, -2, -1, 3, 4, 256, Integer.MAX_VALUE}) {
      due("count(" + what + ")", -1, () -> tree.count(what));
    }
    dueTheFour();
  }

  private void firstOfTwoExceptionsOfTold() {
    startWithFour("Of two exceptions that hold, told");
    for (int n : new int[] {0, 3, 199, -1, 200, Integer.MIN_VALUE, Integer.MAX_VALUE}) {
      for (int what : new int[] {-1, 3, Integer.MIN_VALUE, Integer.MAX_VALUE}) {
        dueThrow("told(" + n + ", " + what + ")", NO_SUCH, () -> tree.told(n, what));
        dueThrow("told(7, " + what + ")", ILLEGAL, () -> tree.told(7, what));
      }
    }
    tree.drop(7);
    dueThrow("told(7, 3) after drop(7)", NO_SUCH, () -> tree.told(7, 3));
  }

  private void firstOfTwoExceptionsOfSlide() {
    start("Of two exceptions that hold, slide");
    long[] tooFar = {SLIDE_LIMIT + 1, -SLIDE_LIMIT - 1, 2 * SLIDE_LIMIT + 1, MOST, LEAST};
    for (long by : tooFar) {
      dueThrow("slide(" + by + ") of none", NO_SUCH, () -> tree.slide(by));
    }
    tree.put(3, 0, 0, 1);
    for (long by : tooFar) {
      dueThrow("slide(" + by + ") of one", ILLEGAL, () -> tree.slide(by));
    }
    tree.drop(3);
    for (long by : tooFar) {
      dueThrow("slide(" + by + ") of none left", NO_SUCH, () -> tree.slide(by));
    }
  }

  private void putThatThrowsChangesNothing() {
    for (int n : new int[] {2, 5, 7, 9, 0, 3, 199}) {
      startWithFour("A call that throws changes nothing, put " + n);
      dueThrow("KEY above", ILLEGAL, () -> tree.put(n, PUT_LIMIT + 1, 99, 9));
      dueThrow("KEY below", ILLEGAL, () -> tree.put(n, -PUT_LIMIT - 1, 99, 9));
      dueThrow("WEIGHT above", ILLEGAL, () -> tree.put(n, 99, 99, 1001));
      dueThrow("WEIGHT below", ILLEGAL, () -> tree.put(n, 99, 99, 0));
      dueThrow("KEY and WEIGHT", ILLEGAL, () -> tree.put(n, MOST, 99, -1));
      dueTheFour();
    }
    startWithFour("A call that throws changes nothing, put of no number");
    for (int n : NO_NUMBERS) {
      dueThrow("put(" + n + ")", ILLEGAL, () -> tree.put(n, 99, 99, 9));
    }
    dueTheFour();
  }

  private void slideThatThrowsChangesNothing() {
    long[] tooFar = {
      SLIDE_LIMIT - 49, SLIDE_LIMIT - 10, -SLIDE_LIMIT - 11, -SLIDE_LIMIT - 50, MOST, LEAST
    };
    for (long by : tooFar) {
      startWithFour("A call that throws changes nothing, slide");
      dueThrow("slide(" + by + ")", ILLEGAL, () -> tree.slide(by));
      dueTheFour();
    }
  }

  private void questionThatThrowsChangesNothing() {
    startWithFour("A call that throws changes nothing, drop and questions");
    dueNotThere(3);
    dueNotThere(-1);
    dueNotThere(200);
    dueThrow("told(7, 3)", ILLEGAL, () -> tree.told(7, 3));
    dueThrow("at(4)", NO_SUCH, () -> tree.at(4));
    dueThrow("earliest(9)", NO_SUCH, () -> tree.earliest(9));
    dueThrow("between(50, 10)", NO_SUCH, () -> tree.between(50, 10));
    dueTheFour();
    start("A call that throws changes nothing, nearest of one");
    tree.put(3, 4, 5, 6);
    dueThrow("nearest()", NO_SUCH, () -> tree.nearest());
    dueOrder(3);
    dueItem(3, 0, 4, 5, 6);
  }

  private void throwOfAFullTreeChangesNothing() {
    startWithAll("A call that throws changes nothing, all there");
    dueThrow("put(200)", ILLEGAL, () -> tree.put(200, 0, 0, 1));
    dueThrow("put(100) too heavy", ILLEGAL, () -> tree.put(100, -1, 0, 1001));
    dueThrow("slide too far", ILLEGAL, () -> tree.slide(SLIDE_LIMIT - 397));
    dueThrow("drop(200)", NO_SUCH, () -> tree.drop(200));
    dueThrow("at(200)", NO_SUCH, () -> tree.at(200));
    for (int n = 0; n < 200; n++) {
      int number = n;
      due("at(" + n + ")", n, () -> tree.at(number));
    }
    due("told(100, 0)", 200, () -> tree.told(100, 0));
    due("count(0)", 200, () -> tree.count(0));
    due("count(1)", 200_000, () -> tree.count(1));
  }

  private void throwOfAnEmptyTreeChangesNothing() {
    start("A call that throws changes nothing, none there");
    dueThrow("slide(7)", NO_SUCH, () -> tree.slide(7));
    dueThrow("put(3) too heavy", ILLEGAL, () -> tree.put(3, 1, 2, 1001));
    dueThrow("put(4) too far", ILLEGAL, () -> tree.put(4, MOST, 2, 1));
    dueNotThere(3);
    dueNotThere(4);
    dueOrder();
    due("put(5, 1, 2, 3)", 1, () -> tree.put(5, 1, 2, 3));
    dueItem(5, 0, 1, 2, 3);
  }
}
