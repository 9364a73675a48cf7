import java.util.NoSuchElementException;

/**
 * A copy-on-write B-tree in numbered pages, with shadow paging: one writer changes copies of pages
 * in a batch and commits them by writing one of two root slots in turn, and readers keep the state
 * that they opened until they close it.
 */
public final class Copperleaf {
  public static final int NONE = -1;

  private static final int KEYS = 100;
  private static final int READERS = 4;

  private static final int MOST_ENTRIES = 4;
  private static final int FEWEST_ENTRIES = 2;
  /** A page holds one entry too many until it is split. */
  private static final int ROW = MOST_ENTRIES + 1;

  /**
   * A tree of 100 keys has at most 50 leaves, and above them 25, 12, 6, 3 and 1 pages: 97. There
   * are at most eight trees (the current one, that of the batch, two of slots, four of readers), so
   * at most 776 pages are ever in use, and one below this bound is always free.
   */
  private static final int PAGES = 800;

  /** The 97 pages of the largest tree stand on 6 levels; two more leave room for a split. */
  private static final int LEVELS = 8;

  private static final int SLOTS = 2;
  private static final int WORDS = 4;
  private static final int EPOCH_WORD = 0;
  private static final int PAGE_WORD = 1;
  private static final int KEYS_WORD = 2;
  private static final int SUM_WORD = 3;
  private static final long TORN_SUM = -1L;

  private final Pages pages;
  private final State current;
  private final State batch;
  private final Writer writer;
  private final State[] readerStates;
  private final long[] slotWords;
  private int slotInUse;

  public Copperleaf() {
    pages = new Pages();
    current = new State();
    batch = new State();
    writer = new Writer(pages, batch);
    readerStates = new State[READERS];
    for (int reader = 0; reader < READERS; reader++) {
      readerStates[reader] = new State();
    }
    slotWords = new long[SLOTS * WORDS];
    slotInUse = 0;
    pages.markTree(pages.kept, current.root);
  }

  // ---- the writer

  public int beginBatch() throws IllegalStateException {
    if (batch.open) {
      throw new IllegalStateException("there is a batch");
    }
    batch.become(current);
    batch.epoch = current.epoch + 1;
    return batch.epoch;
  }

  public boolean hasBatch() {
    return batch.open;
  }

  public boolean put(int key, int value) throws IllegalArgumentException, IllegalStateException {
    requireKey(key);
    requireBatch();
    return writer.store(key, value);
  }

  public int delete(int key)
      throws IllegalArgumentException, IllegalStateException, NoSuchElementException {
    requireKey(key);
    requireBatch();
    int value = valueIn(batch, key);
    writer.drop(key);
    return value;
  }

  public int commit() throws IllegalStateException {
    requireBatch();
    int slot = otherSlot(slotInUse);
    writeSlot(slot, WORDS);
    slotInUse = slot;
    current.become(batch);
    endBatch();
    return current.epoch;
  }

  public int abandon() throws IllegalStateException {
    requireBatch();
    int before = pagesInUse();
    endBatch();
    return before - pagesInUse();
  }

  // ---- readers

  public int openReader() throws IllegalStateException {
    for (int reader = 0; reader < READERS; reader++) {
      if (!isOpen(reader)) {
        readerStates[reader].become(current);
        return reader;
      }
    }
    throw new IllegalStateException("all readers are open");
  }

  public int closeReader(int reader) throws IndexOutOfBoundsException {
    requireReader(reader);
    int before = pagesInUse();
    readerStates[reader].open = false;
    keepStates(pages.kept, NONE);
    return before - pagesInUse();
  }

  public int readers() {
    int open = 0;
    for (int reader = 0; reader < READERS; reader++) {
      if (isOpen(reader)) {
        open++;
      }
    }
    return open;
  }

  public int heldBy(int reader) throws IndexOutOfBoundsException {
    requireReader(reader);
    // What the batch has not written is in the current tree too, so the states alone tell it.
    keepStates(pages.marked, reader);
    int held = 0;
    for (int page = 0; page < PAGES; page++) {
      if (pages.kept[page] && !pages.marked[page]) {
        held++;
      }
    }
    return held;
  }

  // ---- what is in a tree

  public int epochOf(int view) throws IndexOutOfBoundsException {
    return viewed(view).epoch;
  }

  public int get(int view, int key)
      throws IndexOutOfBoundsException, IllegalArgumentException, NoSuchElementException {
    State state = viewed(view);
    requireKey(key);
    return valueIn(state, key);
  }

  public int next(int view, int from) throws IndexOutOfBoundsException {
    return pages.leastKeyFrom(viewed(view).root, from);
  }

  public int rank(int view, int than) throws IndexOutOfBoundsException {
    return pages.keysBelow(viewed(view).root, than);
  }

  public int size(int view) throws IndexOutOfBoundsException {
    return viewed(view).keys;
  }

  public int depth(int view) throws IndexOutOfBoundsException {
    return pages.levelsFrom(viewed(view).root);
  }

  public int rootOf(int view) throws IndexOutOfBoundsException {
    return viewed(view).root;
  }

  public int sharedPages(int view, int other) throws IndexOutOfBoundsException {
    int root = viewed(view).root;
    int otherRoot = viewed(other).root;
    Pages.unmark(pages.marked);
    pages.markTree(pages.marked, root);
    return pages.countMarked(otherRoot);
  }

  // ---- pages

  public boolean isFree(int page) throws IndexOutOfBoundsException {
    if (page < 0) {
      throw new IndexOutOfBoundsException("no such page");
    }
    return pages.isVacant(page);
  }

  public int pagesInUse() {
    int inUse = 0;
    for (int page = 0; page < PAGES; page++) {
      if (!pages.isVacant(page)) {
        inUse++;
      }
    }
    return inUse;
  }

  public int leastFree() {
    return pages.leastVacant();
  }

  public int entries(int page) throws IndexOutOfBoundsException {
    requirePage(page);
    return pages.countOf(page);
  }

  public int keyAt(int page, int entry) throws IndexOutOfBoundsException {
    requireEntry(page, entry);
    return pages.keyOf(page, entry);
  }

  public int pageAt(int page, int entry) throws IndexOutOfBoundsException {
    requireEntry(page, entry);
    return pages.isLeaf(page) ? NONE : pages.wordOf(page, entry);
  }

  // ---- root slots and crashes

  public int currentSlot() {
    return slotInUse;
  }

  public long slotWord(int slot, int word) throws IndexOutOfBoundsException {
    requireSlot(slot);
    if (word < 0 || word >= WORDS) {
      throw new IndexOutOfBoundsException("no such word");
    }
    return wordIn(slot, word);
  }

  public boolean isWhole(int slot) throws IndexOutOfBoundsException {
    requireSlot(slot);
    return sumsUp(slot);
  }

  public int tear(int slot) throws IndexOutOfBoundsException, IllegalStateException {
    requireSlot(slot);
    if (!sumsUp(otherSlot(slot))) {
      throw new IllegalStateException("the other slot is torn");
    }
    int before = pagesInUse();
    slotWords[slot * WORDS + SUM_WORD] = TORN_SUM;
    keepStates(pages.kept, NONE);
    return before - pagesInUse();
  }

  public int crash() {
    for (int reader = 0; reader < READERS; reader++) {
      readerStates[reader].open = false;
    }
    slotInUse = latestWholeSlot();
    current.epoch = (int) wordIn(slotInUse, EPOCH_WORD);
    current.root = (int) wordIn(slotInUse, PAGE_WORD);
    current.keys = (int) wordIn(slotInUse, KEYS_WORD);
    endBatch();
    return current.epoch;
  }

  public int crashInCommit(int words) throws IllegalArgumentException, IllegalStateException {
    if (words < 0 || words > WORDS) {
      throw new IllegalArgumentException("words is out of range");
    }
    requireBatch();
    if (words > 0 && words < WORDS && !sumsUp(slotInUse)) {
      throw new IllegalStateException("no slot would be whole");
    }
    writeSlot(otherSlot(slotInUse), words);
    return crash();
  }

  // ---- what calls ask for

  private static void requireKey(int key) {
    if (key < 0 || key >= KEYS) {
      throw new IllegalArgumentException("key is not 0 to 99");
    }
  }

  private void requireBatch() {
    if (!batch.open) {
      throw new IllegalStateException("there is no batch");
    }
  }

  private void requireReader(int reader) {
    if (!isOpen(reader)) {
      throw new IndexOutOfBoundsException("no open reader has this number");
    }
  }

  private void requirePage(int page) {
    if (page < 0 || pages.isVacant(page)) {
      throw new IndexOutOfBoundsException("no such page in use");
    }
  }

  private void requireEntry(int page, int entry) {
    requirePage(page);
    if (entry < 0 || entry >= pages.countOf(page)) {
      throw new IndexOutOfBoundsException("no such entry");
    }
  }

  private static void requireSlot(int slot) {
    if (slot < 0 || slot >= SLOTS) {
      throw new IndexOutOfBoundsException("no such slot");
    }
  }

  private State viewed(int view) {
    if (view == NONE) {
      return batch.open ? batch : current;
    }
    requireReader(view);
    return readerStates[view];
  }

  private int valueIn(State state, int key) {
    int leaf = pages.leafFor(state.root, key);
    int entry = pages.placeOf(leaf, key);
    if (!pages.holds(leaf, entry, key)) {
      throw new NoSuchElementException("the tree does not have the key");
    }
    return pages.wordOf(leaf, entry);
  }

  private boolean isOpen(int reader) {
    return reader >= 0 && reader < READERS && readerStates[reader].open;
  }

  // ---- states and slots

  private void endBatch() {
    batch.open = false;
    Pages.unmark(pages.written);
    keepStates(pages.kept, NONE);
  }

  /** Marks in a row the pages of all states but that of one reader (NONE: of all states). */
  private void keepStates(boolean[] row, int without) {
    Pages.unmark(row);
    pages.markTree(row, current.root);
    for (int slot = 0; slot < SLOTS; slot++) {
      if (sumsUp(slot)) {
        pages.markTree(row, (int) wordIn(slot, PAGE_WORD));
      }
    }
    for (int reader = 0; reader < READERS; reader++) {
      if (isOpen(reader) && reader != without) {
        pages.markTree(row, readerStates[reader].root);
      }
    }
  }

  private static int otherSlot(int slot) {
    return slot == 0 ? 1 : 0;
  }

  private long wordIn(int slot, int word) {
    int place = slot * WORDS + word;
    return place >= 0 && place < SLOTS * WORDS ? slotWords[place] : 0L;
  }

  private boolean sumsUp(int slot) {
    long sum =
        sumOf(wordIn(slot, EPOCH_WORD), wordIn(slot, PAGE_WORD), wordIn(slot, KEYS_WORD));
    return wordIn(slot, SUM_WORD) == sum;
  }

  private static long sumOf(long epoch, long page, long keys) {
    return 1_000_003L * epoch + 1_009L * page + keys;
  }

  /** Writes the first words of the state of the batch to a slot. */
  private void writeSlot(int slot, int words) {
    for (int word = 0; word < WORDS && word < words; word++) {
      int place = slot * WORDS + word;
      if (place >= 0 && place < SLOTS * WORDS) {
        slotWords[place] = wordOfBatch(word);
      }
    }
  }

  private long wordOfBatch(int word) {
    switch (word) {
      case EPOCH_WORD:
        return batch.epoch;
      case PAGE_WORD:
        return batch.root;
      case KEYS_WORD:
        return batch.keys;
      default:
        return sumOf(batch.epoch, batch.root, batch.keys);
    }
  }

  private int latestWholeSlot() {
    if (!sumsUp(0)) {
      return 1;
    }
    return sumsUp(1) && wordIn(1, EPOCH_WORD) > wordIn(0, EPOCH_WORD) ? 1 : 0;
  }

  /** A tree with its epoch. That of a batch or a reader counts only while it is open. */
  private static final class State {
    int epoch;
    int root;
    int keys;
    boolean open;

    void become(State other) {
      epoch = other.epoch;
      root = other.root;
      keys = other.keys;
      open = true;
    }
  }

  /**
   * The pages by their numbers, in rows that are made once. The word of an entry is the value in a
   * leaf and the page below in an inner page. Keys stand in leaves alone: an inner page that had
   * them too would have to follow each change of a least key below it.
   */
  private static final class Pages {
    final int[] counts = new int[PAGES];
    final boolean[] inner = new boolean[PAGES];
    final int[] leafKeys = new int[PAGES * ROW];
    final int[] words = new int[PAGES * ROW];
    /** Whether a page is in the tree of a state. */
    final boolean[] kept = new boolean[PAGES];
    /** Whether the batch has written a page that is in its tree. */
    final boolean[] written = new boolean[PAGES];
    /** A row for the marks of one question. */
    final boolean[] marked = new boolean[PAGES];
    /** The pages of the tree listed last. */
    final int[] listed = new int[PAGES];

    private static boolean isCell(int page, int entry) {
      return page >= 0 && page < PAGES && entry >= 0 && entry < ROW;
    }

    boolean isVacant(int page) {
      return page < 0 || page >= PAGES || (!kept[page] && !written[page]);
    }

    int leastVacant() {
      for (int page = 0; page < PAGES; page++) {
        if (!kept[page] && !written[page]) {
          return page;
        }
      }
      return PAGES;
    }

    int countOf(int page) {
      return page >= 0 && page < PAGES ? counts[page] : 0;
    }

    boolean isLeaf(int page) {
      return page < 0 || page >= PAGES || !inner[page];
    }

    int wordOf(int page, int entry) {
      boolean cell = page >= 0 && page < PAGES && entry >= 0 && entry < ROW;
      return cell ? words[page * ROW + entry] : NONE;
    }

    void setWord(int page, int entry, int word) {
      if (isCell(page, entry)) {
        words[page * ROW + entry] = word;
      }
    }

    /** The key of an entry; for an inner page it stands in the first leaf below the entry. */
    int keyOf(int page, int entry) {
      int at = page;
      int first = entry;
      for (int level = 0; level < LEVELS && !isLeaf(at); level++) {
        at = wordOf(at, first);
        first = 0;
      }
      return isCell(at, first) ? leafKeys[at * ROW + first] : NONE;
    }

    /** The place of the first entry of a leaf whose key is not less than a key. */
    int placeOf(int leaf, int key) {
      int entry = 0;
      while (entry < ROW && entry < countOf(leaf) && keyOf(leaf, entry) < key) {
        entry++;
      }
      return entry;
    }

    boolean holds(int leaf, int entry, int key) {
      return entry < countOf(leaf) && keyOf(leaf, entry) == key;
    }

    /** The entry of an inner page that leads to the leaf that a key belongs to. */
    int entryFor(int page, int key) {
      int entry = 0;
      while (entry + 1 < ROW && entry + 1 < countOf(page) && keyOf(page, entry + 1) <= key) {
        entry++;
      }
      return entry;
    }

    int leafFor(int root, int key) {
      int page = root;
      for (int level = 0; level < LEVELS && !isLeaf(page); level++) {
        page = wordOf(page, entryFor(page, key));
      }
      return page;
    }

    int levelsFrom(int root) {
      int levels = 1;
      int page = root;
      while (levels < LEVELS && !isLeaf(page)) {
        page = wordOf(page, 0);
        levels++;
      }
      return levels;
    }

    /** Lists the pages of a tree level by level, so that its leaves come in the order of keys. */
    int listTree(int root) {
      listed[0] = root;
      int length = 1;
      for (int i = 0; i < PAGES && i < length; i++) {
        int page = listed[i];
        int below = isLeaf(page) ? 0 : countOf(page);
        for (int entry = 0; entry < below && length < PAGES; entry++) {
          listed[length] = wordOf(page, entry);
          length++;
        }
      }
      return length;
    }

    static void unmark(boolean[] row) {
      for (int page = 0; page < row.length; page++) {
        row[page] = false;
      }
    }

    void markTree(boolean[] row, int root) {
      int length = listTree(root);
      for (int i = 0; i < PAGES && i < length; i++) {
        int page = listed[i];
        if (page >= 0 && page < row.length) {
          row[page] = true;
        }
      }
    }

    int countMarked(int root) {
      int length = listTree(root);
      int count = 0;
      for (int i = 0; i < PAGES && i < length; i++) {
        int page = listed[i];
        if (page >= 0 && page < PAGES && marked[page]) {
          count++;
        }
      }
      return count;
    }

    int leastKeyFrom(int root, int from) {
      int length = listTree(root);
      for (int i = 0; i < PAGES && i < length; i++) {
        int page = listed[i];
        int entry = isLeaf(page) ? placeOf(page, from) : ROW;
        if (entry < countOf(page)) {
          return keyOf(page, entry);
        }
      }
      return NONE;
    }

    int keysBelow(int root, int than) {
      int length = listTree(root);
      int below = 0;
      for (int i = 0; i < PAGES && i < length; i++) {
        if (isLeaf(listed[i])) {
          below += placeOf(listed[i], than);
        }
      }
      return below;
    }

    /** Takes the least free page for the batch, without entries. */
    int take(boolean asLeaf) {
      int page = leastVacant();
      if (page < PAGES) {
        written[page] = true;
        inner[page] = !asLeaf;
        counts[page] = 0;
      }
      return page;
    }

    /** Takes a page out of the tree of the batch. */
    void leave(int page) {
      if (page >= 0 && page < PAGES) {
        written[page] = false;
      }
    }

    /** The page itself if the batch has written it, otherwise a copy in the least free page. */
    int writeAnew(int page) {
      if (page < 0 || page >= PAGES || written[page]) {
        return page;
      }
      int copy = take(isLeaf(page));
      append(page, copy);
      return copy;
    }

    void insert(int page, int entry, int key, int word) {
      int count = countOf(page);
      if (!isCell(page, entry) || entry > count || count >= ROW) {
        return;
      }
      int row = page * ROW;
      for (int i = count; i > entry; i--) {
        leafKeys[row + i] = leafKeys[row + i - 1];
        words[row + i] = words[row + i - 1];
      }
      leafKeys[row + entry] = key;
      words[row + entry] = word;
      counts[page] = count + 1;
    }

    void remove(int page, int entry) {
      int count = countOf(page);
      if (!isCell(page, entry) || entry >= count || count > ROW) {
        return;
      }
      int row = page * ROW;
      for (int i = entry; i + 1 < count; i++) {
        leafKeys[row + i] = leafKeys[row + i + 1];
        words[row + i] = words[row + i + 1];
      }
      counts[page] = count - 1;
    }

    /** Puts the entries of a page behind those of another one; the page itself stays as it is. */
    void append(int from, int to) {
      int start = countOf(to);
      int count = countOf(from);
      if (!isCell(from, count - 1) || !isCell(to, start + count - 1)) {
        return;
      }
      for (int i = 0; i < count; i++) {
        leafKeys[to * ROW + start + i] = leafKeys[from * ROW + i];
        words[to * ROW + start + i] = words[from * ROW + i];
      }
      counts[to] = start + count;
    }

    void move(int from, int entry, int to, int place) {
      insert(to, place, keyOf(from, entry), wordOf(from, entry));
      remove(from, entry);
    }
  }

  /** Changes the tree of the batch. */
  private static final class Writer {
    final Pages pages;
    final State batch;
    /** The pages from the root to the leaf of the key that is written, and the entries taken. */
    final int[] path = new int[LEVELS];
    final int[] taken = new int[LEVELS];
    int bottom;

    Writer(Pages pages, State batch) {
      this.pages = pages;
      this.batch = batch;
    }

    /** Returns whether the key is new. */
    boolean store(int key, int value) {
      int leaf = writePath(key);
      int entry = pages.placeOf(leaf, key);
      if (pages.holds(leaf, entry, key)) {
        pages.setWord(leaf, entry, value);
        return false;
      }
      pages.insert(leaf, entry, key, value);
      batch.keys++;
      splitUpwards();
      return true;
    }

    void drop(int key) {
      int leaf = writePath(key);
      pages.remove(leaf, pages.placeOf(leaf, key));
      batch.keys--;
      for (int level = bottom; level > 0 && level < LEVELS; level--) {
        if (pages.countOf(path[level]) < FEWEST_ENTRIES) {
          mend(path[level - 1], taken[level - 1]);
        }
      }
      shrinkRoot();
    }

    /** Writes the pages from the root to the leaf of a key anew, root first; returns the leaf. */
    int writePath(int key) {
      batch.root = pages.writeAnew(batch.root);
      int page = batch.root;
      int level = 0;
      path[0] = page;
      while (level + 1 < LEVELS && !pages.isLeaf(page)) {
        int entry = pages.entryFor(page, key);
        writeBelow(page, entry);
        page = pages.wordOf(page, entry);
        taken[level] = entry;
        level++;
        path[level] = page;
      }
      bottom = level;
      return page;
    }

    void splitUpwards() {
      for (int level = bottom; level >= 0 && level < LEVELS; level--) {
        int page = path[level];
        if (pages.countOf(page) <= MOST_ENTRIES) {
          return;
        }
        int right = splitOff(page);
        if (level > 0) {
          pages.insert(path[level - 1], taken[level - 1] + 1, NONE, right);
        } else {
          growRoot(page, right);
        }
      }
    }

    /** Moves the entries with the greatest keys to a page of their own, and returns that. */
    int splitOff(int page) {
      int right = pages.take(pages.isLeaf(page));
      for (int i = 0; i < FEWEST_ENTRIES; i++) {
        pages.move(page, ROW - FEWEST_ENTRIES, right, i);
      }
      return right;
    }

    void growRoot(int left, int right) {
      int root = pages.take(false);
      pages.insert(root, 0, NONE, left);
      pages.insert(root, 1, NONE, right);
      batch.root = root;
    }

    /** Mends the page of an entry with the page before it or, if there is none, the one after. */
    void mend(int above, int entry) {
      int neighbour = entry > 0 ? entry - 1 : entry + 1;
      int former = entry > 0 ? neighbour : entry;
      if (pages.countOf(pages.wordOf(above, neighbour)) > FEWEST_ENTRIES) {
        writeBelow(above, neighbour);
        lend(above, neighbour, entry);
      } else {
        writeBelow(above, former);
        join(above, former);
      }
    }

    void writeBelow(int above, int entry) {
      pages.setWord(above, entry, pages.writeAnew(pages.wordOf(above, entry)));
    }

    void lend(int above, int lender, int entry) {
      int from = pages.wordOf(above, lender);
      int to = pages.wordOf(above, entry);
      if (lender < entry) {
        pages.move(from, pages.countOf(from) - 1, to, 0);
      } else {
        pages.move(from, 0, to, pages.countOf(to));
      }
    }

    /** Joins the page of an entry with the one after it. */
    void join(int above, int entry) {
      int latter = pages.wordOf(above, entry + 1);
      pages.append(latter, pages.wordOf(above, entry));
      pages.remove(above, entry + 1);
      pages.leave(latter);
    }

    void shrinkRoot() {
      int root = batch.root;
      if (!pages.isLeaf(root) && pages.countOf(root) == 1) {
        batch.root = pages.wordOf(root, 0);
        pages.leave(root);
      }
    }
  }
}
