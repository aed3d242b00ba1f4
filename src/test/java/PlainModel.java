import java.math.BigInteger;
import java.util.ArrayList;
import java.util.Comparator;
import java.util.List;
import java.util.NoSuchElementException;
import java.util.TreeMap;
import java.util.function.Predicate;

/** The document's sentences, one by one and without haste: what FairTree is compared with. */
final class PlainModel {
  private static final long PUT_LIMIT = 1_099_511_627_776L;
  private static final long SLIDE_LIMIT = 2_199_023_255_552L;

  private record Item(int number, long key, long due, int weight) {
    BigInteger bigKey() {
      return BigInteger.valueOf(key);
    }

    BigInteger bigWeight() {
      return BigInteger.valueOf(weight);
    }
  }

  private final TreeMap<Integer, Item> items = new TreeMap<>();

  int put(int n, long key, long due, int weight) {
    if (n < 0 || n > 199 || key < -PUT_LIMIT || key > PUT_LIMIT || weight < 1 || weight > 1000) {
      throw new IllegalArgumentException();
    }
    items.put(n, new Item(n, key, due, weight));
    return items.size();
  }

  int drop(int n) {
    int weight = there(n).weight();
    items.remove(n);
    return weight;
  }

  long slide(long by) {
    if (items.isEmpty()) {
      throw new NoSuchElementException();
    }
    BigInteger limit = BigInteger.valueOf(SLIDE_LIMIT);
    for (Item item : items.values()) {
      if (item.bigKey().add(BigInteger.valueOf(by)).abs().compareTo(limit) > 0) {
        throw new IllegalArgumentException();
      }
    }
    items.replaceAll((n, item) -> new Item(n, item.key() + by, item.due(), item.weight()));
    return inOrder().get(0).key();
  }

  long told(int n, int what) {
    Item item = there(n);
    if (what == 0) {
      return item.key();
    }
    if (what == 1) {
      return item.due();
    }
    if (what == 2) {
      return item.weight();
    }
    throw new IllegalArgumentException();
  }

  int at(int k) {
    if (k < 0 || k >= items.size()) {
      throw new NoSuchElementException();
    }
    return inOrder().get(k).number();
  }

  int rank(int n) {
    return inOrder().indexOf(there(n));
  }

  int earliest(long key) {
    return earliestOf(item -> item.key() <= key);
  }

  int between(long from, long to) {
    return earliestOf(item -> from <= item.key() && item.key() <= to);
  }

  int pick() {
    return earliestOf(fair());
  }

  long ahead(int n) {
    return there(n).bigKey().multiply(allWeights()).subtract(sum()).longValueExact();
  }

  int weight(long key) {
    return items.values().stream().filter(i -> i.key() <= key).mapToInt(Item::weight).sum();
  }

  int half() {
    BigInteger upTo = BigInteger.ZERO;
    for (Item item : inOrder()) {
      upTo = upTo.add(item.bigWeight());
      if (upTo.add(upTo).compareTo(allWeights()) >= 0) {
        return item.number();
      }
    }
    throw new NoSuchElementException();
  }

  long nearest() {
    long least = Long.MAX_VALUE;
    for (Item one : items.values()) {
      for (Item other : items.values()) {
        if (one.number() < other.number()) {
          least = Math.min(least, Math.abs(one.key() - other.key()));
        }
      }
    }
    if (items.size() < 2) {
      throw new NoSuchElementException();
    }
    return least;
  }

  int cut(long from, long to) {
    int before = items.size();
    items.values().removeIf(item -> from <= item.key() && item.key() <= to);
    return before - items.size();
  }

  int count(int what) {
    if (what == 0) {
      return items.size();
    }
    if (what == 1) {
      return allWeights().intValueExact();
    }
    if (what == 2) {
      return (int) items.values().stream().filter(fair()).count();
    }
    return -1;
  }

  private Item there(int n) {
    if (!items.containsKey(n)) {
      throw new NoSuchElementException();
    }
    return items.get(n);
  }

  private List<Item> inOrder() {
    List<Item> order = new ArrayList<>(items.values());
    order.sort(Comparator.comparingLong(Item::key).thenComparingInt(Item::number));
    return order;
  }

  private int earliestOf(Predicate<Item> may) {
    return items.values().stream()
        .filter(may)
        .min(Comparator.comparingLong(Item::due).thenComparingInt(Item::number))
        .orElseThrow(NoSuchElementException::new)
        .number();
  }

  private Predicate<Item> fair() {
    BigInteger all = allWeights();
    BigInteger sum = sum();
    return item -> item.bigKey().multiply(all).compareTo(sum) <= 0;
  }

  private BigInteger allWeights() {
    return items.values().stream().map(Item::bigWeight).reduce(BigInteger.ZERO, BigInteger::add);
  }

  private BigInteger sum() {
    return items.values().stream()
        .map(item -> item.bigKey().multiply(item.bigWeight()))
        .reduce(BigInteger.ZERO, BigInteger::add);
  }
}
