import java.util.NoSuchElementException;

/**
 * Items in order of their keys, with weights and dues.
 *
 * <p>The numbers of the items that are there stand in a row in ORDER. Whatever a call asks for by
 * key (not above, from one to another, FAIR) is then an unbroken stretch of places in that row.
 */
public final class FairTree {
  private static final int NUMBERS = 200;
  private static final int WEIGHT_LIMIT = 1000;
  private static final long PUT_KEY_LIMIT = 1L << 40;
  private static final long SLIDE_KEY_LIMIT = 1L << 41;

  private static final int WHAT_KEY = 0;
  private static final int WHAT_DUE = 1;
  private static final int WHAT_WEIGHT = 2;

  private static final int COUNT_ITEMS = 0;
  private static final int COUNT_WEIGHTS = 1;
  private static final int COUNT_FAIR = 2;

  private final long[] keys;
  private final long[] dues;
  /** No item weighs 0, so 0 marks a number that is not there. */
  private final int[] weights;
  private final int[] order;
  private int size;

  public FairTree() {
    keys = new long[NUMBERS];
    dues = new long[NUMBERS];
    weights = new int[NUMBERS];
    order = new int[NUMBERS];
    size = 0;
  }

  public int put(int n, long key, long due, int weight) throws IllegalArgumentException {
    if (!isNumber(n) || !mayBePut(key) || weight < 1 || weight > WEIGHT_LIMIT) {
      throw new IllegalArgumentException();
    }
    if (isThere(n)) {
      removeItem(n);
    }
    keys[n] = key;
    dues[n] = due;
    weights[n] = weight;
    insertItem(n);
    return size;
  }

  public int drop(int n) throws NoSuchElementException {
    if (!isThere(n)) {
      throw new NoSuchElementException();
    }
    int dropped = weights[n];
    removeItem(n);
    return dropped;
  }

  public long slide(long by) throws NoSuchElementException, IllegalArgumentException {
    if (size == 0) {
      throw new NoSuchElementException();
    }
    // The bounds are put on by itself, as a key plus by could wrap around.
    long leastBy = -SLIDE_KEY_LIMIT - keyAt(0);
    long mostBy = SLIDE_KEY_LIMIT - keyAt(size - 1);
    if (by < leastBy || by > mostBy) {
      throw new IllegalArgumentException();
    }
    for (int place = 0; place < size; place++) {
      keys[order[place]] += by;
    }
    return keyAt(0);
  }

  public long told(int n, int what) throws NoSuchElementException, IllegalArgumentException {
    if (!isThere(n)) {
      throw new NoSuchElementException();
    }
    switch (what) {
      case WHAT_KEY:
        return keys[n];
      case WHAT_DUE:
        return dues[n];
      case WHAT_WEIGHT:
        return weights[n];
      default:
        throw new IllegalArgumentException();
    }
  }

  public int at(int k) throws NoSuchElementException {
    if (k < 0 || k >= size) {
      throw new NoSuchElementException();
    }
    return order[k];
  }

  public int rank(int n) throws NoSuchElementException {
    if (!isThere(n)) {
      throw new NoSuchElementException();
    }
    return placesBefore(keys[n], n);
  }

  public int earliest(long key) throws NoSuchElementException {
    return earliestOfPlaces(0, placesNotAbove(key));
  }

  public int between(long from, long to) throws NoSuchElementException {
    return earliestOfPlaces(placesBelow(from), placesNotAbove(to));
  }

  public int pick() throws NoSuchElementException {
    return earliestOfPlaces(0, fairPlaces());
  }

  public long ahead(int n) throws NoSuchElementException {
    if (!isThere(n)) {
      throw new NoSuchElementException();
    }
    return keys[n] * weightOfFirst(size) - sumOfKeysTimesWeights();
  }

  public int weight(long key) {
    return weightOfFirst(placesNotAbove(key));
  }

  public int half() throws NoSuchElementException {
    if (size == 0) {
      throw new NoSuchElementException();
    }
    int all = weightOfFirst(size);
    int place = 0;
    int upToPlace = weights[order[0]];
    // Doubling the part, not halving the whole, keeps an odd whole exact.
    while (place < size - 1 && 2 * upToPlace < all) {
      place++;
      upToPlace += weights[order[place]];
    }
    return order[place];
  }

  public long nearest() throws NoSuchElementException {
    if (size < 2) {
      throw new NoSuchElementException();
    }
    long least = keyAt(1) - keyAt(0);
    for (int place = 2; place < size; place++) {
      least = Math.min(least, keyAt(place) - keyAt(place - 1));
    }
    return least;
  }

  public int cut(long from, long to) {
    int start = placesBelow(from);
    int end = placesNotAbove(to);
    if (start >= end) {
      return 0;
    }
    removePlaces(start, end);
    return end - start;
  }

  public int count(int what) {
    switch (what) {
      case COUNT_ITEMS:
        return size;
      case COUNT_WEIGHTS:
        return weightOfFirst(size);
      case COUNT_FAIR:
        return fairPlaces();
      default:
        return -1;
    }
  }

  private static boolean isNumber(int n) {
    return n >= 0 && n < NUMBERS;
  }

  private static boolean mayBePut(long key) {
    return key >= -PUT_KEY_LIMIT && key <= PUT_KEY_LIMIT;
  }

  private boolean isThere(int n) {
    return isNumber(n) && weights[n] > 0;
  }

  private long keyAt(int place) {
    return keys[order[place]];
  }

  /** Any pair may be asked for: number 0 leaves out the items of that key, NUMBERS takes all. */
  private int placesBefore(long key, int number) {
    int places = 0;
    while (places < size && standsBefore(order[places], key, number)) {
      places++;
    }
    return places;
  }

  private boolean standsBefore(int n, long key, int number) {
    return keys[n] < key || (keys[n] == key && n < number);
  }

  private int placesBelow(long key) {
    return placesBefore(key, 0);
  }

  private int placesNotAbove(long key) {
    return placesBefore(key, NUMBERS);
  }

  /** The FAIR ones come first in ORDER, as whoever has a lesser key than a FAIR one is FAIR too. */
  private int fairPlaces() {
    long all = weightOfFirst(size);
    long sum = sumOfKeysTimesWeights();
    int places = 0;
    while (places < size && keyAt(places) * all <= sum) {
      places++;
    }
    return places;
  }

  private int weightOfFirst(int places) {
    int together = 0;
    for (int place = 0; place < places; place++) {
      together += weights[order[place]];
    }
    return together;
  }

  /** At most 2^41 times 200,000 in size, so neither it nor its distance to a share overflows. */
  private long sumOfKeysTimesWeights() {
    long sum = 0;
    for (int place = 0; place < size; place++) {
      sum += keyAt(place) * weights[order[place]];
    }
    return sum;
  }

  private int earliestOfPlaces(int start, int end) throws NoSuchElementException {
    if (start >= end) {
      throw new NoSuchElementException();
    }
    int first = order[start];
    for (int place = start + 1; place < end; place++) {
      if (isEarlier(order[place], first)) {
        first = order[place];
      }
    }
    return first;
  }

  private boolean isEarlier(int n, int other) {
    return dues[n] < dues[other] || (dues[n] == dues[other] && n < other);
  }

  private void insertItem(int n) {
    int place = placesBefore(keys[n], n);
    System.arraycopy(order, place, order, place + 1, size - place);
    order[place] = n;
    size++;
  }

  private void removeItem(int n) {
    int place = placesBefore(keys[n], n);
    removePlaces(place, place + 1);
  }

  private void removePlaces(int start, int end) {
    for (int place = start; place < end; place++) {
      weights[order[place]] = 0;
    }
    System.arraycopy(order, end, order, start, size - end);
    size -= end - start;
  }
}
