import java.util.function.IntConsumer;

/** Stores to begin with, and ways to look at them and to call them wrongly, for several tests. */
abstract class Stores {
  static final int MIN = Integer.MIN_VALUE;
  static final int MAX = Integer.MAX_VALUE;

  /** Numbers that are far out, some of which wrap to small ones when they are multiplied. */
  private static final int[] FAR = {
    MIN, MIN + 1, -(1 << 30), -(1 << 29), 1 << 29, 1 << 30, 858993459, 858993460, 1717986919,
    MAX - 1, MAX
  };

  static final String BOUNDS = "IndexOutOfBoundsException";
  static final String ARGUMENT = "IllegalArgumentException";
  static final String STATE = "IllegalStateException";
  static final String MISSING = "NoSuchElementException";
  static final String NOTHING = "no exception";

  // ---- stores to begin with

  /** A store with a batch that has put some keys, each with ten times itself. */
  static Copperleaf batchWith(int... keys) {
    Copperleaf store = new Copperleaf();
    store.beginBatch();
    putAll(store, keys);
    return store;
  }

  static Copperleaf committedWith(int... keys) {
    Copperleaf store = batchWith(keys);
    store.commit();
    return store;
  }

  static void putAll(Copperleaf store, int... keys) {
    for (int key : keys) {
      store.put(key, 10 * key);
    }
  }

  static void deleteAll(Copperleaf store, int... keys) {
    for (int key : keys) {
      store.delete(key);
    }
  }

  static int[] upTo(int count) {
    int[] keys = new int[count];
    for (int key = 0; key < count; key++) {
      keys[key] = key;
    }
    return keys;
  }

  static void commitPut(Copperleaf store, int key) {
    store.beginBatch();
    store.put(key, 10 * key);
    store.commit();
  }

  /** A store of three levels with a batch that has written nothing. */
  static Copperleaf descending() {
    Copperleaf store = new Copperleaf();
    store.beginBatch();
    for (int key = 20; key > 0; key--) {
      putAll(store, key);
    }
    store.commit();
    store.beginBatch();
    dueTree("three levels", store, -1,
        "8(3(1(1 2 3 4) 13(5 6) 12(7 8)) 14(10(9 10) 9(11 12)) 11(6(13 14) 5(15 16))"
            + " 7(4(17 18) 2(19 20)))");
    return store;
  }

  /** A store whose reader 0 has the keys 10 to 50 and whose batch has put 60 and deleted 10 too. */
  static Copperleaf twoTrees() {
    Copperleaf store = committedWith(10, 20, 30, 40, 50);
    store.openReader();
    store.beginBatch();
    store.put(60, 1);
    store.delete(10);
    return store;
  }

  /**
   * A store whose open readers are the bits of a number. Reader r has the epoch r, the keys below r
   * and page r alone; the current state has the epoch 4 and page 4, the other slot epoch 3.
   */
  static Copperleaf withReaders(int open) {
    Copperleaf store = new Copperleaf();
    for (int reader = 0; reader < 4; reader++) {
      store.openReader();
      commitPut(store, reader);
    }
    for (int reader = 0; reader < 4; reader++) {
      if (!isIn(open, reader)) {
        store.closeReader(reader);
      }
    }
    return store;
  }

  static boolean isIn(int open, int reader) {
    return reader >= 0 && reader < 4 && (open >> reader & 1) == 1;
  }

  // ---- looks at a store

  /** A page in one line: its number and its keys, and for an inner page in brackets those below. */
  static String tree(Copperleaf store, int page) {
    StringBuilder text = new StringBuilder().append(page).append('(');
    int entries = store.entries(page);
    for (int entry = 0; entry < entries; entry++) {
      int below = store.pageAt(page, entry);
      text.append(entry == 0 ? "" : " ");
      text.append(below == Copperleaf.NONE ? "" + store.keyAt(page, entry) : tree(store, below));
    }
    return text.append(')').toString();
  }

  static void dueTree(String what, Copperleaf store, int view, String due) {
    Checks.due(what, tree(store, store.rootOf(view)), due);
  }

  static void dueWords(String what, Copperleaf store, int slot, long... words) {
    for (int word = 0; word < 4; word++) {
      Checks.due(what + ", word " + word, store.slotWord(slot, word), words[word]);
    }
  }

  /** Which of the pages from 0 to 19 are free. */
  static String free(Copperleaf store) {
    StringBuilder text = new StringBuilder();
    for (int page = 0; page < 20; page++) {
      text.append(store.isFree(page) ? "." : "x");
    }
    return text.toString();
  }

  /** The epoch, the tree and the values of a view, in one line. */
  static String lookAt(Copperleaf store, int view) {
    StringBuilder text = new StringBuilder().append(store.epochOf(view));
    text.append(tree(store, store.rootOf(view)));
    for (int key = store.next(view, 0); key >= 0; key = store.next(view, key + 1)) {
      text.append(',').append(store.get(view, key));
    }
    return text.toString();
  }

  /** All that can be seen of a store, in one line. */
  static String look(Copperleaf store) {
    StringBuilder text = new StringBuilder(free(store));
    text.append(store.hasBatch()).append(store.currentSlot()).append(store.readers());
    for (int view = -1; view < 4; view++) {
      int seen = view;
      boolean open = !Checks.thrownBy(() -> store.epochOf(seen)).equals(BOUNDS);
      text.append(' ').append(open ? lookAt(store, view) : "closed");
    }
    for (int place = 0; place < 8; place++) {
      text.append(' ').append(store.slotWord(place / 4, place % 4));
    }
    return text.toString();
  }

  // ---- wrong calls

  /** A call throws one exception, and the store looks the same behind it. */
  static void refused(String what, Copperleaf store, String exception, Runnable call) {
    String before = look(store);
    Checks.due(what, Checks.thrownBy(call), exception);
    Checks.due(what + ", and what it changes", look(store), before);
  }

  /** A call throws one exception for all numbers from below a range, above it, and far out. */
  static void refusedOutside(
      int least, int greatest, String what, Copperleaf store, String exception, IntConsumer call) {
    String before = look(store);
    for (int step = 1; step <= 3; step++) {
      dueThrow(what, least - step, exception, call);
      dueThrow(what, greatest + step, exception, call);
    }
    for (int number : FAR) {
      dueThrow(what, number, exception, call);
    }
    Checks.due(what + ", and what it changes", look(store), before);
  }

  static void dueThrow(String what, int argument, String exception, IntConsumer call) {
    Checks.due(what + " of " + argument, Checks.thrownBy(() -> call.accept(argument)), exception);
  }

  static void noSuchViews(String what, IntConsumer call) {
    for (int view : new int[] {-2, 1, 2, 3, 4, MIN, MAX}) {
      dueThrow(what, view, BOUNDS, call);
    }
  }
}
