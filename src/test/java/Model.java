import java.util.ArrayList;
import java.util.List;
import java.util.NoSuchElementException;
import java.util.TreeMap;

/**
 * The document told again with objects in place of rows: a page is a node, and which pages are free
 * is found anew for every question by walking through all trees.
 */
final class Model {
  private static final int KEYS = 100;

  static final class Node {
    int number;
    boolean leaf = true;
    boolean written;
    final List<Integer> keys = new ArrayList<>();
    final List<Integer> values = new ArrayList<>();
    final List<Node> below = new ArrayList<>();

    int entries() {
      return leaf ? keys.size() : below.size();
    }

    int leastKey() {
      return leaf ? keys.get(0) : below.get(0).leastKey();
    }

    int keyAt(int entry) {
      return leaf ? keys.get(entry) : below.get(entry).leastKey();
    }
  }

  static final class Tree {
    final int epoch;
    Node root;

    Tree(int epoch, Node root) {
      this.epoch = epoch;
      this.root = root;
    }
  }

  private Tree current = new Tree(0, new Node());
  private Tree batch;
  private final Tree[] readers = new Tree[4];
  private final Tree[] slotTrees = {current, current};
  private final long[][] slots = new long[2][4];
  private int slot;
  /** Pages that are taken but do not stand in the tree yet. */
  private final List<Node> loose = new ArrayList<>();

  int beginBatch() {
    if (batch != null) {
      throw new IllegalStateException();
    }
    batch = new Tree(current.epoch + 1, current.root);
    return batch.epoch;
  }

  boolean hasBatch() {
    return batch != null;
  }

  boolean put(int key, int value) {
    needKey(key);
    needBatch();
    List<Node> path = writtenPath(key);
    Node leaf = path.get(path.size() - 1);
    int at = leaf.keys.indexOf(key);
    if (at >= 0) {
      leaf.values.set(at, value);
      return false;
    }
    at = 0;
    while (at < leaf.keys.size() && leaf.keys.get(at) < key) {
      at++;
    }
    leaf.keys.add(at, key);
    leaf.values.add(at, value);
    for (int level = path.size() - 1; level >= 0 && path.get(level).entries() == 5; level--) {
      Node right = split(path.get(level));
      if (level > 0) {
        Node above = path.get(level - 1);
        above.below.add(above.below.indexOf(path.get(level)) + 1, right);
      } else {
        Node root = fresh(false);
        root.below.add(path.get(0));
        root.below.add(right);
        batch.root = root;
      }
    }
    loose.clear();
    return true;
  }

  private Node split(Node node) {
    Node right = fresh(node.leaf);
    for (int i = 0; i < 2; i++) {
      if (node.leaf) {
        right.keys.add(0, node.keys.remove(node.keys.size() - 1));
        right.values.add(0, node.values.remove(node.values.size() - 1));
      } else {
        right.below.add(0, node.below.remove(node.below.size() - 1));
      }
    }
    return right;
  }

  int delete(int key) {
    needKey(key);
    needBatch();
    int value = valueIn(batch, key);
    List<Node> path = writtenPath(key);
    Node leaf = path.get(path.size() - 1);
    leaf.values.remove(leaf.keys.indexOf(key));
    leaf.keys.remove((Integer) key);
    for (int level = path.size() - 1; level > 0 && path.get(level).entries() == 1; level--) {
      mend(path.get(level - 1), path.get(level));
    }
    if (!batch.root.leaf && batch.root.below.size() == 1) {
      batch.root = batch.root.below.get(0);
    }
    loose.clear();
    return value;
  }

  private void mend(Node above, Node node) {
    int at = above.below.indexOf(node);
    boolean before = at > 0;
    int place = before ? at - 1 : 1;
    if (above.below.get(place).entries() >= 3) {
      Node neighbour = writtenBelow(above, place);
      int from = before ? neighbour.entries() - 1 : 0;
      int to = before ? 0 : 1;
      if (node.leaf) {
        node.keys.add(to, neighbour.keys.remove(from));
        node.values.add(to, neighbour.values.remove(from));
      } else {
        node.below.add(to, neighbour.below.remove(from));
      }
      return;
    }
    int first = before ? place : at;
    Node former = writtenBelow(above, first);
    Node latter = above.below.get(first + 1);
    former.keys.addAll(latter.keys);
    former.values.addAll(latter.values);
    former.below.addAll(latter.below);
    above.below.remove(first + 1);
  }

  private List<Node> writtenPath(int key) {
    List<Node> path = new ArrayList<>();
    batch.root = written(batch.root);
    Node node = batch.root;
    path.add(node);
    while (!node.leaf) {
      int at = 0;
      for (int i = 0; i < node.below.size(); i++) {
        if (node.below.get(i).leastKey() <= key) {
          at = i;
        }
      }
      node = writtenBelow(node, at);
      path.add(node);
    }
    loose.clear();
    return path;
  }

  private Node writtenBelow(Node above, int at) {
    above.below.set(at, written(above.below.get(at)));
    return above.below.get(at);
  }

  private Node written(Node node) {
    if (node.written) {
      return node;
    }
    Node copy = fresh(node.leaf);
    copy.keys.addAll(node.keys);
    copy.values.addAll(node.values);
    copy.below.addAll(node.below);
    return copy;
  }

  private Node fresh(boolean leaf) {
    Node node = new Node();
    node.number = leastFree();
    node.leaf = leaf;
    node.written = true;
    loose.add(node);
    return node;
  }

  int commit() {
    needBatch();
    slot = 1 - slot;
    slots[slot] = wordsOfBatch();
    slotTrees[slot] = batch;
    current = batch;
    settle(current.root);
    batch = null;
    return current.epoch;
  }

  private long[] wordsOfBatch() {
    long page = batch.root.number;
    long keys = keysOf(batch.root).size();
    return new long[] {batch.epoch, page, keys, 1000003L * batch.epoch + 1009L * page + keys};
  }

  private static void settle(Node node) {
    node.written = false;
    for (Node below : node.below) {
      settle(below);
    }
  }

  int abandon() {
    needBatch();
    int before = pagesInUse();
    batch = null;
    return before - pagesInUse();
  }

  int openReader() {
    for (int i = 0; i < 4; i++) {
      if (readers[i] == null) {
        readers[i] = current;
        return i;
      }
    }
    throw new IllegalStateException();
  }

  int closeReader(int reader) {
    int held = heldBy(reader);
    readers[reader] = null;
    return held;
  }

  int readers() {
    int open = 0;
    for (Tree reader : readers) {
      open += reader == null ? 0 : 1;
    }
    return open;
  }

  int heldBy(int reader) {
    if (reader < 0 || reader > 3 || readers[reader] == null) {
      throw new IndexOutOfBoundsException();
    }
    int before = pagesInUse();
    Tree tree = readers[reader];
    readers[reader] = null;
    int after = pagesInUse();
    readers[reader] = tree;
    return before - after;
  }

  int epochOf(int view) {
    return viewed(view).epoch;
  }

  int get(int view, int key) {
    Tree tree = viewed(view);
    needKey(key);
    return valueIn(tree, key);
  }

  int next(int view, int from) {
    Integer key = keysOf(viewed(view).root).ceilingKey(from);
    return key == null ? -1 : key;
  }

  int rank(int view, int than) {
    return keysOf(viewed(view).root).headMap(than).size();
  }

  int size(int view) {
    return keysOf(viewed(view).root).size();
  }

  int depth(int view) {
    Node node = viewed(view).root;
    int depth = 1;
    for (; !node.leaf; node = node.below.get(0)) {
      depth++;
    }
    return depth;
  }

  int rootOf(int view) {
    return viewed(view).root.number;
  }

  int sharedPages(int view, int other) {
    TreeMap<Integer, Node> pages = pagesOf(viewed(view).root);
    pages.keySet().retainAll(pagesOf(viewed(other).root).keySet());
    return pages.size();
  }

  boolean isFree(int page) {
    if (page < 0) {
      throw new IndexOutOfBoundsException();
    }
    return !inUse().containsKey(page);
  }

  int pagesInUse() {
    return inUse().size();
  }

  int leastFree() {
    TreeMap<Integer, Node> pages = inUse();
    int page = 0;
    while (pages.containsKey(page)) {
      page++;
    }
    return page;
  }

  int entries(int page) {
    return inUseAt(page).entries();
  }

  int keyAt(int page, int entry) {
    Node node = inUseAt(page);
    needEntry(node, entry);
    return node.keyAt(entry);
  }

  int pageAt(int page, int entry) {
    Node node = inUseAt(page);
    needEntry(node, entry);
    return node.leaf ? -1 : node.below.get(entry).number;
  }

  int currentSlot() {
    return slot;
  }

  long slotWord(int slot, int word) {
    needSlot(slot);
    if (word < 0 || word > 3) {
      throw new IndexOutOfBoundsException();
    }
    return slots[slot][word];
  }

  boolean isWhole(int slot) {
    needSlot(slot);
    long[] words = slots[slot];
    return words[3] == 1000003L * words[0] + 1009L * words[1] + words[2];
  }

  int tear(int slot) {
    needSlot(slot);
    if (!isWhole(1 - slot)) {
      throw new IllegalStateException();
    }
    int before = pagesInUse();
    slots[slot][3] = -1;
    return before - pagesInUse();
  }

  int crash() {
    batch = null;
    for (int i = 0; i < 4; i++) {
      readers[i] = null;
    }
    if (!isWhole(0)) {
      slot = 1;
    } else if (!isWhole(1)) {
      slot = 0;
    } else {
      slot = slots[1][0] > slots[0][0] ? 1 : 0;
    }
    current = slotTrees[slot];
    return current.epoch;
  }

  int crashInCommit(int words) {
    if (words < 0 || words > 4) {
      throw new IllegalArgumentException();
    }
    needBatch();
    if (words >= 1 && words <= 3 && !isWhole(slot)) {
      throw new IllegalStateException();
    }
    int other = 1 - slot;
    long[] all = wordsOfBatch();
    System.arraycopy(all, 0, slots[other], 0, words);
    if (words == 4) {
      slotTrees[other] = batch;
      settle(batch.root);
    } else if (words > 0 && isWhole(other)) {
      throw new AssertionError("a slot that is half written is whole");
    }
    return crash();
  }

  private void needKey(int key) {
    if (key < 0 || key >= KEYS) {
      throw new IllegalArgumentException();
    }
  }

  private void needBatch() {
    if (batch == null) {
      throw new IllegalStateException();
    }
  }

  private void needSlot(int slot) {
    if (slot != 0 && slot != 1) {
      throw new IndexOutOfBoundsException();
    }
  }

  private void needEntry(Node node, int entry) {
    if (entry < 0 || entry >= node.entries()) {
      throw new IndexOutOfBoundsException();
    }
  }

  private Node inUseAt(int page) {
    Node node = inUse().get(page);
    if (node == null) {
      throw new IndexOutOfBoundsException();
    }
    return node;
  }

  private Tree viewed(int view) {
    if (view == -1) {
      return batch != null ? batch : current;
    }
    if (view < 0 || view > 3 || readers[view] == null) {
      throw new IndexOutOfBoundsException();
    }
    return readers[view];
  }

  private static int valueIn(Tree tree, int key) {
    Integer value = keysOf(tree.root).get(key);
    if (value == null) {
      throw new NoSuchElementException();
    }
    return value;
  }

  private static TreeMap<Integer, Integer> keysOf(Node node) {
    TreeMap<Integer, Integer> keys = new TreeMap<>();
    for (int i = 0; i < node.keys.size(); i++) {
      keys.put(node.keys.get(i), node.values.get(i));
    }
    for (Node below : node.below) {
      keys.putAll(keysOf(below));
    }
    return keys;
  }

  private TreeMap<Integer, Node> inUse() {
    TreeMap<Integer, Node> pages = pagesOf(current.root);
    if (batch != null) {
      add(pagesOf(batch.root), pages);
    }
    for (int i = 0; i < 2; i++) {
      if (isWhole(i)) {
        add(pagesOf(slotTrees[i].root), pages);
      }
    }
    for (Tree reader : readers) {
      if (reader != null) {
        add(pagesOf(reader.root), pages);
      }
    }
    for (Node node : loose) {
      add(pagesOf(node), pages);
    }
    return pages;
  }

  private static void add(TreeMap<Integer, Node> more, TreeMap<Integer, Node> pages) {
    for (Node node : more.values()) {
      Node other = pages.put(node.number, node);
      if (other != null && other != node) {
        throw new AssertionError("two pages have the number " + node.number);
      }
    }
  }

  private static TreeMap<Integer, Node> pagesOf(Node node) {
    TreeMap<Integer, Node> pages = new TreeMap<>();
    pages.put(node.number, node);
    for (Node below : node.below) {
      pages.putAll(pagesOf(below));
    }
    return pages;
  }
}
