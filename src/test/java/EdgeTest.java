import java.util.function.IntConsumer;
import java.util.function.ToIntFunction;

/** Each sentence of the promises that names a boundary case has a test of its own here. */
public final class EdgeTest extends Stores {
  public static void main(String[] args) {
    writer();
    readers();
    trees();
    pages();
    slots();
    Checks.close();
  }

  private static void writer() {
    promise1AStoreWithoutKeys();
    promise2OneMoreThanTheCurrentEpoch();
    promise2ThereIsABatch();
    promise3ABatchUntilItEnds();
    promise4NewInThisTree();
    promise4PagesAreWrittenForTheSameValue();
    promise4KeyIsNot0To99();
    promise4ThereIsNoBatch();
    promise4AllKeysAreThere();
    promise5ReturnsAnyValue();
    promise5KeyIsNot0To99();
    promise5ThereIsNoBatch();
    promise5TheTreeDoesNotHaveTheKey();
    promise5TheLastKeyIsDeleted();
    promise6AllFourWords();
    promise6ABatchWithoutChanges();
    promise6TheSlotInTurnIsTorn();
    promise6TheCurrentSlotIsTorn();
    promise6ThereIsNoBatch();
    promise7HowManyBecomeFree();
    promise7ThereIsNoBatch();
  }

  private static void readers() {
    promise8TheLeastNumber();
    promise8FourAreOpen();
    promise9HowManyBecomeFree();
    promise9NoOpenReaderHasTheNumber();
    promise9OthersKeepTheirPages();
    promise10HowManyAreOpen();
    promise11AsManyAsAClosingFrees();
    promise11NoOpenReaderHasTheNumber();
    promise11ABatchHoldsNothingMore();
  }

  private static void trees() {
    promise12TheEpochACommitWouldMake();
    promise12NoSuchView();
    promise13KeyIsNot0To99();
    promise13TheTreeDoesNotHaveTheKey();
    promise13NoSuchView();
    promise14FromAnyNumber();
    promise14ThereIsNone();
    promise14ALeafAsRoot();
    promise14NoSuchView();
    promise15ThanAnyNumber();
    promise15ALeafAsRoot();
    promise15SmallTreesBesideALargeOne();
    promise15NoSuchView();
    promise16FromNoneToAll();
    promise16NoSuchView();
    promise17FromOnePageOn();
    promise17NoSuchView();
    promise18NoSuchView();
    promise19AViewAndTheSame();
    promise19NothingIsShared();
    promise19NoSuchViewOrOther();
  }

  private static void pages() {
    promise20PageIsBelow0();
    promise20PagesFarOut();
    promise21FromOnePageOn();
    promise22TheLeastOfSeveral();
    promise22Page0();
    promise22Page0Leaves();
    promise23FromNoneTo4();
    promise23PageIsBelow0OrFree();
    promise24PageIsBelow0OrFree();
    promise24NoSuchEntry();
    promise25NoneInALeaf();
    promise25PageIsBelow0OrFree();
    promise25NoSuchEntry();
  }

  private static void slots() {
    promise26CommitsAloneChangeIt();
    promise27SlotIsNot0Or1();
    promise27WordIsNot0To3();
    promise28SlotIsNot0Or1();
    promise28Torn();
    promise29TheSumBecomesMinus1();
    promise29HowManyBecomeFree();
    promise29SlotIsNot0Or1();
    promise29TheOtherSlotIsTorn();
    promise30BothHaveTheEpoch();
    promise30OneIsTorn();
    promise30BatchAndAllReadersAreGone();
    promise31WordsAreOutOfRange();
    promise31ThereIsNoBatch();
    promise31TheCurrentSlotIsTorn();
    promise31NoWordIsWritten();
    promise31SomeWordsAreWritten();
    promise31AllWordsAreWritten();
  }

  // ---- 1 to 7: the writer

  private static void promise1AStoreWithoutKeys() {
    Copperleaf store = new Copperleaf();
    Checks.due("1: size", store.size(-1), 0);
    Checks.due("1: the least key", store.next(-1, MIN), Copperleaf.NONE);
    Checks.due("1: keys below all numbers", store.rank(-1, MAX), 0);
    for (int key = 0; key < 100; key++) {
      dueThrow("1: value", key, MISSING, k -> store.get(-1, k));
    }
  }

  private static void promise2OneMoreThanTheCurrentEpoch() {
    Copperleaf store = new Copperleaf();
    for (int epoch = 1; epoch <= 5; epoch++) {
      Checks.due("2: epoch", store.beginBatch(), epoch);
      store.commit();
    }
    store.tear(1);
    Checks.due("2: the current slot is torn", store.beginBatch(), 6);
    store.crash();
    Checks.due("2: it fell back from 5 to 4", store.beginBatch(), 5);
  }

  private static void promise2ThereIsABatch() {
    Copperleaf store = new Copperleaf();
    store.beginBatch();
    refused("2: just begun", store, STATE, store::beginBatch);
    store.put(1, 1);
    refused("2: with a key", store, STATE, store::beginBatch);
    store.tear(0);
    refused("2: with a torn slot", store, STATE, store::beginBatch);
    Checks.due("2: its commit", store.commit(), 1);
  }

  private static void promise3ABatchUntilItEnds() {
    Copperleaf store = new Copperleaf();
    Checks.state("3: commit", store::commit);
    Checks.due("3: a refused commit begins none", store.hasBatch(), false);
    store.beginBatch();
    Checks.state("3: beginBatch", store::beginBatch);
    Checks.argument("3: crashInCommit", () -> store.crashInCommit(5));
    Checks.due("3: refused calls end none", store.hasBatch(), true);
    for (int end = 0; end < 8; end++) {
      Copperleaf ended = withEndedBatch(end);
      Checks.due("3: end " + end, ended.hasBatch(), false);
    }
  }

  /** A store whose batch has ended: by abandon, commit, crash, or crashInCommit of 0 to 4 words. */
  private static Copperleaf withEndedBatch(int end) {
    Copperleaf store = batchWith(1, 2);
    switch (end) {
      case 0:
        store.abandon();
        break;
      case 1:
        store.commit();
        break;
      case 2:
        store.crash();
        break;
      default:
        store.crashInCommit(end - 3);
        break;
    }
    return store;
  }

  private static void noBatch(String what, ToIntFunction<Copperleaf> call) {
    Copperleaf fresh = new Copperleaf();
    refused(what + " in a new store", fresh, STATE, () -> call.applyAsInt(fresh));
    for (int end = 0; end < 8; end++) {
      Copperleaf store = withEndedBatch(end);
      refused(what + " after end " + end, store, STATE, () -> call.applyAsInt(store));
    }
  }

  private static void promise4NewInThisTree() {
    Copperleaf store = committedWith(10);
    store.openReader();
    store.beginBatch();
    Checks.due("4: the current state has it", store.put(10, 1), false);
    store.delete(10);
    Checks.due("4: it was deleted", store.put(10, 2), true);
    Checks.due("4: it was put again", store.put(10, 3), false);
    store.delete(10);
    store.commit();
    store.beginBatch();
    Checks.due("4: a reader alone has it", store.put(10, 4), true);
    Checks.due("4: put in the batch alone", store.put(20, 1), true);
    store.abandon();
    store.beginBatch();
    Checks.due("4: that batch was given up", store.put(20, 1), true);
  }

  private static void promise4PagesAreWrittenForTheSameValue() {
    Copperleaf store = committedWith(10, 20, 30, 40, 50);
    store.beginBatch();
    Checks.due("4: the same value", store.put(10, 100), false);
    dueTree("4: the root and a leaf are written", store, -1, "4(5(10 20 30) 2(40 50))");
  }

  private static void promise4KeyIsNot0To99() {
    Copperleaf store = batchWith(0, 99);
    refusedOutside(0, 99, "4: key", store, ARGUMENT, key -> store.put(key, 1));
    Copperleaf idle = new Copperleaf();
    refusedOutside(0, 99, "4: key without a batch", idle, ARGUMENT, key -> idle.put(key, 1));
  }

  private static void promise4ThereIsNoBatch() {
    noBatch("4: put", store -> store.put(1, 1) ? 1 : 0);
    noBatch("4: put of a new key", store -> store.put(99, 1) ? 1 : 0);
  }

  private static void promise4AllKeysAreThere() {
    Copperleaf store = batchWith(upTo(100));
    int pages = store.pagesInUse();
    for (int key = 0; key < 100; key++) {
      Checks.due("4: key " + key + " among all", store.put(key, -key), false);
    }
    Checks.due("4: size", store.size(-1), 100);
    Checks.due("4: pages", store.pagesInUse(), pages);
    Checks.argument("4: key 100 among all", () -> store.put(100, 0));
  }

  private static void promise5ReturnsAnyValue() {
    Copperleaf store = batchWith();
    for (int value : new int[] {MIN, -1, 0, 1, MAX}) {
      store.put(0, value);
      store.put(99, -value);
      Checks.due("5: value", store.delete(0), value);
      Checks.due("5: value of the other", store.delete(99), -value);
    }
  }

  private static void promise5KeyIsNot0To99() {
    Copperleaf store = batchWith(0, 99);
    refusedOutside(0, 99, "5: key", store, ARGUMENT, store::delete);
    Copperleaf idle = new Copperleaf();
    refusedOutside(0, 99, "5: key without a batch", idle, ARGUMENT, idle::delete);
  }

  private static void promise5ThereIsNoBatch() {
    noBatch("5: delete", store -> store.delete(1));
    noBatch("5: delete of no key", store -> store.delete(99));
  }

  private static void promise5TheTreeDoesNotHaveTheKey() {
    Copperleaf empty = batchWith();
    refused("5: in an empty tree", empty, MISSING, () -> empty.delete(0));
    Copperleaf store = committedWith(10, 20, 30, 40, 50);
    store.beginBatch();
    for (int key : new int[] {0, 9, 11, 35, 39, 41, 51, 99}) {
      dueThrow("5: key not there", key, MISSING, store::delete);
    }
    dueTree("5: no page is written", store, -1, "3(1(10 20 30) 2(40 50))");
    store.delete(10);
    refused("5: a key that only the states have", store, MISSING, () -> store.delete(10));
  }

  private static void promise5TheLastKeyIsDeleted() {
    Copperleaf store = committedWith(7);
    store.beginBatch();
    Checks.due("5: the last key", store.delete(7), 70);
    dueTree("5: a root without entries", store, -1, "2()");
    Checks.due("5: its size", store.size(-1), 0);
    store.commit();
    dueWords("5: its words", store, 0, 2, 2, 0, 2002024);
    store.beginBatch();
    store.put(3, 30);
    dueTree("5: an empty root is written anew", store, -1, "0(3)");
  }

  private static void promise6AllFourWords() {
    Copperleaf store = committedWith(upTo(100));
    int root = store.rootOf(-1);
    dueWords("6: 100 keys", store, 1, 1, root, 100, 1000103 + 1009L * root);
    dueWords("6: the other slot stays", store, 0, 0, 0, 0, 0);
  }

  private static void promise6ABatchWithoutChanges() {
    Copperleaf store = new Copperleaf();
    store.beginBatch();
    Checks.due("6: epoch", store.commit(), 1);
    dueWords("6: without keys", store, 1, 1, 0, 0, 1000003);
    Checks.due("6: one page for both slots", store.pagesInUse(), 1);
  }

  private static void promise6TheSlotInTurnIsTorn() {
    Copperleaf store = committedWith(1);
    store.tear(0);
    commitPut(store, 2);
    dueWords("6: all words over a torn slot", store, 0, 2, 0, 2, 2000008);
    for (int words = 1; words <= 3; words++) {
      Copperleaf half = committedWith(1);
      half.beginBatch();
      half.put(5, 5);
      half.crashInCommit(words);
      Checks.due("6: half written", half.isWhole(0), false);
      commitPut(half, 2);
      dueWords("6: all words over " + words, half, 0, 2, 0, 2, 2000008);
    }
  }

  private static void promise6TheCurrentSlotIsTorn() {
    Copperleaf store = committedWith(1);
    store.tear(1);
    commitPut(store, 2);
    Checks.due("6: it becomes the current one", store.currentSlot(), 0);
    dueWords("6: the other slot is written", store, 0, 2, 2, 2, 2002026);
    dueWords("6: the torn one is not", store, 1, 1, 1, 1, -1);
    Checks.due("6: page 1 was in the torn one alone", store.isFree(1), true);
  }

  private static void promise6ThereIsNoBatch() {
    noBatch("6: commit", Copperleaf::commit);
  }

  private static void promise7HowManyBecomeFree() {
    Copperleaf store = committedWith(10, 20, 30, 40, 50);
    store.beginBatch();
    Checks.due("7: none was written", store.abandon(), 0);
    store.beginBatch();
    store.put(10, 0);
    Checks.due("7: root and leaf", store.abandon(), 2);
    store.beginBatch();
    deleteAll(store, 10, 20, 30, 40, 50);
    Checks.due("7: a root without entries", store.abandon(), 1);
    store.beginBatch();
    store.put(10, 0);
    store.put(40, 0);
    Checks.due("7: all pages of the tree", store.abandon(), 3);
    dueTree("7: the current tree stays", store, -1, "3(1(10 20 30) 2(40 50))");
    Checks.due("7: the least free page", store.leastFree(), 4);
  }

  private static void promise7ThereIsNoBatch() {
    noBatch("7: abandon", Copperleaf::abandon);
  }

  // ---- 8 to 11: readers

  private static void promise8TheLeastNumber() {
    int[] least = {0, 1, 0, 2, 0, 1, 0, 3, 0, 1, 0, 2, 0, 1, 0};
    for (int open = 0; open < 15; open++) {
      Copperleaf store = withReaders(open);
      Checks.due("8: number beside " + open, store.openReader(), least[open]);
      Checks.due("8: it reads the current state", store.epochOf(least[open]), 4);
    }
  }

  private static void promise8FourAreOpen() {
    Copperleaf store = withReaders(15);
    refused("8: a fifth", store, STATE, store::openReader);
    store.beginBatch();
    refused("8: a fifth beside a batch", store, STATE, store::openReader);
    store.closeReader(3);
    Checks.due("8: when one is closed", store.openReader(), 3);
  }

  private static void promise9HowManyBecomeFree() {
    for (int open = 1; open < 16; open++) {
      for (int reader = 0; reader < 4; reader++) {
        if (isIn(open, reader)) {
          Copperleaf store = withReaders(open);
          int due = reader < 3 ? 1 : 0;
          Checks.due("9: " + reader + " of " + open, store.closeReader(reader), due);
          Checks.due("9: its page", store.isFree(reader), due == 1);
        }
      }
    }
  }

  private static void promise9NoOpenReaderHasTheNumber() {
    for (int open = 0; open < 16; open++) {
      Copperleaf store = withReaders(open);
      noOpenReader("9: reader", store, open, store::closeReader);
    }
  }

  private static void noOpenReader(String what, Copperleaf store, int open, IntConsumer call) {
    refusedOutside(0, 3, what, store, BOUNDS, call);
    for (int reader = 0; reader < 4; reader++) {
      if (!isIn(open, reader)) {
        dueThrow(what + " beside " + open, reader, BOUNDS, call);
      }
    }
  }

  private static void promise9OthersKeepTheirPages() {
    for (int reader = 0; reader < 4; reader++) {
      Copperleaf store = withReaders(15);
      store.closeReader(reader);
      for (int other = 0; other < 4; other++) {
        Checks.due("9: page " + other + " without reader " + reader, store.isFree(other),
            other == reader && reader < 3);
      }
    }
  }

  private static void promise10HowManyAreOpen() {
    for (int open = 0; open < 16; open++) {
      Checks.due("10: open " + open, withReaders(open).readers(), Integer.bitCount(open));
    }
  }

  private static void promise11AsManyAsAClosingFrees() {
    for (int open = 1; open < 16; open++) {
      Copperleaf store = withReaders(open);
      for (int reader = 0; reader < 4; reader++) {
        if (isIn(open, reader)) {
          Checks.due("11: " + reader + " of " + open, store.heldBy(reader), reader < 3 ? 1 : 0);
        }
      }
    }
    Copperleaf twice = withReaders(1);
    commitPut(twice, 50);
    twice.openReader();
    twice.openReader();
    commitPut(twice, 51);
    commitPut(twice, 52);
    Checks.due("11: two readers have the state", twice.heldBy(1), 0);
    twice.closeReader(2);
    Checks.due("11: one has all but a leaf of the current tree", twice.heldBy(1), 2);
    twice.beginBatch();
    twice.put(0, 0);
    twice.commit();
    Checks.due("11: the other slot has that leaf", twice.heldBy(1), 2);
    commitPut(twice, 0);
    Checks.due("11: one has all alone", twice.heldBy(1), 3);
  }

  private static void promise11NoOpenReaderHasTheNumber() {
    for (int open = 0; open < 16; open++) {
      Copperleaf store = withReaders(open);
      noOpenReader("11: reader", store, open, store::heldBy);
    }
  }

  private static void promise11ABatchHoldsNothingMore() {
    Copperleaf store = committedWith(10, 20, 30, 40, 50);
    store.openReader();
    store.tear(1);
    store.beginBatch();
    Checks.due("11: the current state and the batch have it", store.heldBy(0), 0);
    store.put(10, 0);
    Checks.due("11: the current state has it", store.heldBy(0), 0);
    store.commit();
    Checks.due("11: a leaf is in the current tree", store.heldBy(0), 2);
    Checks.due("11: as many as a closing frees", store.closeReader(0), 2);
  }

  // ---- 12 to 19: what is in a tree

  /** A call throws for each view that is neither -1 nor an open reader, and otherwise this. */
  private static void noSuchView(String what, String otherwise, StoreCall call) {
    for (int open = 0; open < 16; open++) {
      Copperleaf store = withReaders(open);
      refusedOutside(-1, 3, what, store, BOUNDS, view -> call.ask(store, view));
      for (int view = -1; view < 4; view++) {
        boolean there = view == -1 || isIn(open, view);
        dueThrow(what + " beside " + open, view, there ? otherwise : BOUNDS,
            reader -> call.ask(store, reader));
      }
    }
  }

  /** A call with one number. */
  private interface StoreCall {
    int ask(Copperleaf store, int number);
  }

  private static void promise12TheEpochACommitWouldMake() {
    Copperleaf store = withReaders(15);
    Checks.due("12: of the current state", store.epochOf(-1), 4);
    store.beginBatch();
    Checks.due("12: of the batch", store.epochOf(-1), 5);
    for (int reader = 0; reader < 4; reader++) {
      Checks.due("12: of reader " + reader, store.epochOf(reader), reader);
    }
    store.abandon();
    Checks.due("12: of the current state again", store.epochOf(-1), 4);
    store.tear(0);
    store.crash();
    Checks.due("12: of the state before", store.epochOf(-1), 3);
  }

  private static void promise12NoSuchView() {
    noSuchView("12: epoch of view", NOTHING, Copperleaf::epochOf);
  }

  private static void promise13KeyIsNot0To99() {
    Copperleaf store = committedWith(0, 99);
    store.openReader();
    refusedOutside(0, 99, "13: key", store, ARGUMENT, key -> store.get(-1, key));
    refusedOutside(0, 99, "13: key of a reader", store, ARGUMENT, key -> store.get(0, key));
    Copperleaf empty = new Copperleaf();
    refusedOutside(0, 99, "13: key of none", empty, ARGUMENT, key -> empty.get(-1, key));
  }

  private static void promise13TheTreeDoesNotHaveTheKey() {
    Copperleaf store = twoTrees();
    for (int key = 0; key < 100; key++) {
      boolean inReader = key % 10 == 0 && key >= 10 && key <= 50;
      boolean inBatch = key % 10 == 0 && key >= 20 && key <= 60;
      dueThrow("13: value", key, inReader ? "no exception" : MISSING, k -> store.get(0, k));
      dueThrow("13: value", key, inBatch ? "no exception" : MISSING, k -> store.get(-1, k));
    }
  }

  private static void promise13NoSuchView() {
    noSuchView("13: value in view", MISSING, (store, view) -> store.get(view, 99));
    noSuchView("13: value of key 100 in view", ARGUMENT, (store, view) -> store.get(view, 100));
  }

  private static void promise14FromAnyNumber() {
    Copperleaf store = batchWith(0, 3, 6, 9, 12, 15, 18, 99);
    Checks.due("14: from the least number", store.next(-1, MIN), 0);
    Checks.due("14: from -1", store.next(-1, -1), 0);
    for (int from = 0; from <= 18; from++) {
      Checks.due("14: from " + from, store.next(-1, from), (from + 2) / 3 * 3);
    }
    Checks.due("14: over a gap", store.next(-1, 19), 99);
    Checks.due("14: the greatest key", store.next(-1, 99), 99);
  }

  private static void promise14ThereIsNone() {
    Copperleaf store = committedWith(0, 3, 6, 9, 12);
    Checks.due("14: behind the greatest", store.next(-1, 13), Copperleaf.NONE);
    Checks.due("14: from 99", store.next(-1, 99), Copperleaf.NONE);
    Checks.due("14: from 100", store.next(-1, 100), Copperleaf.NONE);
    Checks.due("14: from the greatest number", store.next(-1, MAX), Copperleaf.NONE);
    store.beginBatch();
    store.delete(12);
    Checks.due("14: the greatest was deleted", store.next(-1, 10), Copperleaf.NONE);
    deleteAll(store, 0, 3, 6, 9);
    Checks.due("14: all were deleted", store.next(-1, MIN), Copperleaf.NONE);
  }

  private static void promise14ALeafAsRoot() {
    Copperleaf store = batchWith();
    for (int keys = 1; keys <= 4; keys++) {
      putAll(store, 10 * keys);
      Checks.due("14: the greatest of " + keys, store.next(-1, 10 * keys), 10 * keys);
      Checks.due("14: behind it", store.next(-1, 10 * keys + 1), Copperleaf.NONE);
    }
  }

  private static void promise14NoSuchView() {
    noSuchView("14: next in view", NOTHING, (store, view) -> store.next(view, 0));
  }

  private static void promise15ThanAnyNumber() {
    Copperleaf store = batchWith(0, 3, 6, 9, 12, 15, 18, 99);
    Checks.due("15: than the least number", store.rank(-1, MIN), 0);
    Checks.due("15: than -1", store.rank(-1, -1), 0);
    for (int than = 0; than <= 18; than++) {
      Checks.due("15: than " + than, store.rank(-1, than), (than + 2) / 3);
    }
    Checks.due("15: than 19", store.rank(-1, 19), 7);
    Checks.due("15: than the greatest key", store.rank(-1, 99), 7);
    Checks.due("15: than 100", store.rank(-1, 100), 8);
    Checks.due("15: than the greatest number", store.rank(-1, MAX), 8);
  }

  private static void promise15ALeafAsRoot() {
    Copperleaf store = batchWith();
    Checks.due("15: without keys", store.rank(-1, MAX), 0);
    for (int keys = 1; keys <= 4; keys++) {
      putAll(store, 10 * keys);
      Checks.due("15: than the greatest of " + keys, store.rank(-1, 10 * keys), keys - 1);
      Checks.due("15: than one more", store.rank(-1, 10 * keys + 1), keys);
    }
  }

  /** Batches of two and of three levels beside readers whose root is a leaf. */
  private static void promise15SmallTreesBesideALargeOne() {
    for (int keys = 10; keys <= 40; keys += 30) {
      Copperleaf store = withReaders(15);
      store.beginBatch();
      putAll(store, upTo(keys));
      for (int reader = 0; reader < 4; reader++) {
        Checks.due("15: in the large tree", store.rank(-1, 100), keys);
        Checks.due("15: in that of reader " + reader, store.rank(reader, 100), reader);
        Checks.due("14: in the large tree", store.next(-1, 4), 4);
        Checks.due("14: in that of reader " + reader, store.next(reader, reader), Copperleaf.NONE);
        Checks.due("19: shared by both", store.sharedPages(-1, reader), 0);
      }
    }
  }

  private static void promise15NoSuchView() {
    noSuchView("15: rank in view", NOTHING, (store, view) -> store.rank(view, 0));
  }

  private static void promise16FromNoneToAll() {
    Copperleaf store = batchWith();
    for (int keys = 0; keys < 100; keys++) {
      Checks.due("16: size", store.size(-1), keys);
      putAll(store, keys);
    }
    for (int keys = 100; keys > 0; keys--) {
      Checks.due("16: size", store.size(-1), keys);
      store.delete(keys - 1);
    }
    Checks.due("16: none again", store.size(-1), 0);
  }

  private static void promise16NoSuchView() {
    noSuchView("16: size of view", NOTHING, Copperleaf::size);
  }

  private static void promise17FromOnePageOn() {
    Copperleaf store = batchWith();
    for (int keys = 0; keys < 100; keys++) {
      int due = keys < 5 ? 1 : keys < 14 ? 2 : keys < 41 ? 3 : 4;
      Checks.due("17: depth with " + keys, store.depth(-1), due);
      putAll(store, keys);
    }
    for (int key = 0; key < 97; key++) {
      store.delete(key);
    }
    Checks.due("17: three keys are left", store.depth(-1), 1);
  }

  private static void promise17NoSuchView() {
    noSuchView("17: depth of view", NOTHING, Copperleaf::depth);
  }

  private static void promise18NoSuchView() {
    noSuchView("18: root of view", NOTHING, Copperleaf::rootOf);
  }

  private static void promise19AViewAndTheSame() {
    Copperleaf store = new Copperleaf();
    store.openReader();
    Checks.due("19: page 0 is all of an empty tree", store.sharedPages(0, 0), 1);
    Checks.due("19: and in the current one too", store.sharedPages(0, -1), 1);
    Copperleaf large = batchWith();
    for (int key = 99; key >= 0; key--) {
      putAll(large, key);
    }
    Checks.due("19: 100 keys, most in leaves of 2", large.sharedPages(-1, -1), 92);
  }

  private static void promise19NothingIsShared() {
    Copperleaf store = withReaders(15);
    for (int view = 0; view < 4; view++) {
      for (int other = 0; other < 4; other++) {
        Checks.due("19: shared by " + view + " and " + other, store.sharedPages(view, other),
            view == other ? 1 : 0);
      }
    }
  }

  private static void promise19NoSuchViewOrOther() {
    noSuchView("19: view", NOTHING, (store, view) -> store.sharedPages(view, -1));
    noSuchView("19: other", NOTHING, (store, view) -> store.sharedPages(-1, view));
    noSuchView("19: both", NOTHING, (store, view) -> store.sharedPages(view, view));
  }

  // ---- 20 to 25: pages

  private static void promise20PageIsBelow0() {
    Copperleaf store = committedWith(10, 20, 30, 40, 50);
    for (int page : new int[] {-1, -2, -4, -5, -800, MIN, MIN + 1}) {
      dueThrow("20: page", page, BOUNDS, store::isFree);
    }
  }

  private static void promise20PagesFarOut() {
    Copperleaf store = committedWith(10, 20, 30, 40, 50);
    for (int page : new int[] {4, 5, 799, 800, 801, 1 << 29, 1 << 30, 858993460, MAX - 1, MAX}) {
      Checks.due("20: page " + page, store.isFree(page), true);
    }
  }

  private static void promise21FromOnePageOn() {
    for (int open = 0; open < 16; open++) {
      Copperleaf store = withReaders(open);
      int due = 2 + Integer.bitCount(open & 7);
      Checks.due("21: open " + open, store.pagesInUse(), due);
      store.beginBatch();
      Checks.due("21: a batch without changes", store.pagesInUse(), due);
      store.put(0, 0);
      Checks.due("21: a page of the batch", store.pagesInUse(), due + 1);
      store.crash();
      Checks.due("21: after a crash", store.pagesInUse(), 2);
    }
  }

  private static void promise22TheLeastOfSeveral() {
    for (int open = 0; open < 16; open++) {
      int due = 0;
      while (due < 3 && isIn(open, due)) {
        due++;
      }
      Checks.due("22: open " + open, withReaders(open).leastFree(), due < 3 ? due : 5);
    }
  }

  private static void promise22Page0() {
    Copperleaf store = withReaders(0);
    store.beginBatch();
    putAll(store, 10);
    dueTree("22: the leaf, the one split off, the root", store, -1, "2(0(0 1 2) 1(3 10))");
    deleteAll(store, 0, 1);
    dueTree("22: page 0 is lent to or joined", store, -1, "0(2 3 10)");
    Checks.due("22: the other two are free", store.leastFree(), 1);
    deleteAll(store, 2, 3, 10);
    putAll(store, 9, 8, 7, 6);
    dueTree("22: keys come before others in page 0", store, -1, "0(6 7 8 9)");
    store.commit();
    dueTree("22: it is committed", store, -1, "0(6 7 8 9)");
    Checks.due("22: then page 3 is free", free(store).substring(0, 5), "x...x");
  }

  private static void promise22Page0Leaves() {
    Copperleaf store = committedWith(10, 20, 30, 40, 50);
    commitPut(store, 40);
    store.beginBatch();
    store.delete(40);
    dueTree("22: page 0 is the root", store, -1, "0(7(10 20) 6(30 50))");
    store.delete(30);
    dueTree("22: page 0 left", store, -1, "7(10 20 50)");
    Checks.due("22: it is the least free page", store.leastFree(), 0);
    Checks.due("22: and what was joined is free", free(store), ".xxxxx.x............");
  }

  private static void promise23FromNoneTo4() {
    Copperleaf store = batchWith();
    Checks.due("23: a new root", store.entries(0), 0);
    for (int keys = 1; keys <= 4; keys++) {
      putAll(store, keys);
      Checks.due("23: a leaf of " + keys, store.entries(1), keys);
    }
    Copperleaf inner = batchWith(upTo(5));
    for (int keys = 5; keys < 14; keys++) {
      Checks.due("23: a root above " + keys, inner.entries(3), (keys + 1) / 3);
      putAll(inner, keys);
    }
  }

  /** A call throws for pages below 0 and for those that are free, and for no others. */
  private static void pageIsBelow0OrFree(String what, StoreCall call) {
    Copperleaf store = withReaders(2);
    Checks.due(what + ", pages", free(store), ".x.xx...............");
    refusedOutside(0, 19, what, store, BOUNDS, page -> call.ask(store, page));
    for (int page = 0; page < 20; page++) {
      boolean inUse = page == 1 || page == 3 || page == 4;
      dueThrow(what, page, inUse ? NOTHING : BOUNDS, number -> call.ask(store, number));
    }
  }

  private static void promise23PageIsBelow0OrFree() {
    pageIsBelow0OrFree("23: page", Copperleaf::entries);
  }

  private static void promise24PageIsBelow0OrFree() {
    pageIsBelow0OrFree("24: page", (store, page) -> store.keyAt(page, 0));
  }

  /** A call throws for entries before the first and behind the last one of a page. */
  private static void noSuchEntry(String what, StoreCall[] calls) {
    for (int page = 0; page < calls.length; page++) {
      StoreCall call = calls[page];
      Copperleaf store = batchWith(10, 20, 30, 40, 50);
      int entries = store.entries(page);
      refusedOutside(0, entries - 1, what + " of page " + page, store, BOUNDS,
          entry -> call.ask(store, entry));
      for (int entry = 0; entry < entries; entry++) {
        dueThrow(what + " of page " + page, entry, NOTHING, number -> call.ask(store, number));
      }
    }
  }

  private static void promise24NoSuchEntry() {
    noSuchEntry("24: key", new StoreCall[] {
      (store, entry) -> store.keyAt(0, entry), (store, entry) -> store.keyAt(1, entry),
      (store, entry) -> store.keyAt(2, entry), (store, entry) -> store.keyAt(3, entry)
    });
    Copperleaf full = descending();
    Checks.due("24: the last of 4 in a leaf", full.keyAt(1, 3), 4);
    Checks.due("24: the last of 4 in an inner page", full.keyAt(8, 3), 17);
    refusedOutside(0, 3, "24: key of a full leaf", full, BOUNDS, entry -> full.keyAt(1, entry));
    Checks.bounds("24: a fifth in an inner page", () -> full.keyAt(8, 4));
    Copperleaf less = batchWith(10, 20);
    less.delete(20);
    refused("24: an entry that was deleted", less, BOUNDS, () -> less.keyAt(1, 1));
  }

  private static void promise25NoneInALeaf() {
    Copperleaf store = withReaders(0);
    store.beginBatch();
    putAll(store, 10);
    dueTree("25: page 0 is the first leaf", store, -1, "2(0(0 1 2) 1(3 10))");
    Checks.due("25: page 0 of an inner page", store.pageAt(2, 0), 0);
    Checks.due("25: the last page of an inner page", store.pageAt(2, 1), 1);
    for (int entry = 0; entry < 3; entry++) {
      Checks.due("25: entry " + entry + " of a leaf", store.pageAt(0, entry), Copperleaf.NONE);
    }
    Checks.due("25: a leaf that is a root", store.pageAt(4, 3), Copperleaf.NONE);
  }

  private static void promise25PageIsBelow0OrFree() {
    pageIsBelow0OrFree("25: page", (store, page) -> store.pageAt(page, 0));
  }

  private static void promise25NoSuchEntry() {
    noSuchEntry("25: page", new StoreCall[] {
      (store, entry) -> store.pageAt(0, entry), (store, entry) -> store.pageAt(1, entry),
      (store, entry) -> store.pageAt(2, entry), (store, entry) -> store.pageAt(3, entry)
    });
    Copperleaf full = descending();
    Checks.due("25: the last of 4 in an inner page", full.pageAt(8, 3), 7);
    refusedOutside(0, 3, "25: page of a full page", full, BOUNDS, entry -> full.pageAt(8, entry));
  }

  // ---- 26 to 31: root slots and crashes

  private static void promise26CommitsAloneChangeIt() {
    Copperleaf store = committedWith(1);
    store.tear(1);
    store.tear(1);
    store.openReader();
    store.beginBatch();
    store.put(2, 2);
    store.abandon();
    Checks.state("26: tear", () -> store.tear(0));
    Checks.state("26: commit", store::commit);
    Checks.due("26: it is the torn one", store.currentSlot(), 1);
    store.beginBatch();
    store.commit();
    Checks.due("26: a commit writes the other one", store.currentSlot(), 0);
    store.beginBatch();
    store.crashInCommit(3);
    Checks.due("26: half a commit does not", store.currentSlot(), 0);
    store.beginBatch();
    store.crashInCommit(4);
    Checks.due("26: a whole one does", store.currentSlot(), 1);
  }

  private static void promise27SlotIsNot0Or1() {
    for (int word = 0; word < 4; word++) {
      int number = word;
      Copperleaf store = committedWith(1);
      refusedOutside(0, 1, "27: word " + word + " of slot", store, BOUNDS,
          slot -> store.slotWord(slot, number));
    }
  }

  private static void promise27WordIsNot0To3() {
    for (int slot = 0; slot < 2; slot++) {
      int number = slot;
      Copperleaf store = committedWith(1);
      refusedOutside(0, 3, "27: slot " + slot + ", word", store, BOUNDS,
          word -> store.slotWord(number, word));
    }
    dueWords("27: all words of slot 1", committedWith(1), 1, 1, 1, 1, 1001013);
  }

  private static void promise28SlotIsNot0Or1() {
    Copperleaf store = committedWith(1);
    refusedOutside(0, 1, "28: slot", store, BOUNDS, slot -> store.isWhole(slot));
  }

  private static void promise28Torn() {
    for (int words = 0; words <= 4; words++) {
      Copperleaf store = committedWith(1);
      store.beginBatch();
      store.put(2, 2);
      store.crashInCommit(words);
      Checks.due("28: slot 0 of " + words + " words", store.isWhole(0), words == 0 || words == 4);
      Checks.due("28: slot 1", store.isWhole(1), true);
      store.tear(0);
      Checks.due("28: slot 0 is torn", store.isWhole(0), false);
      commitPut(store, words == 4 ? 3 : 2);
      Checks.due("28: a commit in turn", store.isWhole(0), words != 4);
    }
  }

  private static void promise29TheSumBecomesMinus1() {
    Copperleaf store = committedWith(10, 20, 30, 40, 50);
    store.tear(1);
    dueWords("29: the other words stay", store, 1, 1, 3, 5, -1);
    store.tear(1);
    dueWords("29: torn twice", store, 1, 1, 3, 5, -1);
    store.crash();
    dueWords("29: after a crash", store, 1, 1, 3, 5, -1);
    store.beginBatch();
    store.crashInCommit(3);
    dueWords("29: half written", store, 1, 1, 0, 0, -1);
  }

  private static void promise29HowManyBecomeFree() {
    Copperleaf store = committedWith(10, 20, 30, 40, 50);
    commitPut(store, 40);
    Checks.due("29: a leaf is in the current tree", store.tear(1), 2);
    Checks.due("29: no more for a torn one", store.tear(1), 0);
    Copperleaf read = committedWith(10, 20, 30, 40, 50);
    read.openReader();
    commitPut(read, 40);
    Checks.due("29: all are in a reader's tree", read.tear(1), 0);
    Copperleaf current = committedWith(10, 20, 30, 40, 50);
    Checks.due("29: all are in the current tree", current.tear(1), 0);
    dueTree("29: which stays", current, -1, "3(1(10 20 30) 2(40 50))");
    Checks.due("29: with its epoch", current.epochOf(-1), 1);
    Copperleaf begun = committedWith(1);
    begun.beginBatch();
    Checks.due("29: page 0 was the other slot's", begun.tear(0), 1);
    begun.put(2, 2);
    dueTree("29: the batch takes it", begun, -1, "0(1 2)");
  }

  private static void promise29SlotIsNot0Or1() {
    Copperleaf store = committedWith(1);
    refusedOutside(0, 1, "29: slot", store, BOUNDS, store::tear);
    store.tear(0);
    refusedOutside(0, 1, "29: slot beside a torn one", store, BOUNDS, store::tear);
  }

  private static void promise29TheOtherSlotIsTorn() {
    for (int slot = 0; slot < 2; slot++) {
      int other = 1 - slot;
      Copperleaf store = committedWith(1);
      store.tear(slot);
      refused("29: " + slot + " is torn", store, STATE, () -> store.tear(other));
      Checks.due("29: the same again", store.tear(slot), 0);
    }
    for (int words = 1; words <= 3; words++) {
      Copperleaf half = committedWith(1);
      half.beginBatch();
      half.crashInCommit(words);
      refused("29: the other is half written", half, STATE, () -> half.tear(1));
      half.beginBatch();
      half.commit();
      Checks.due("29: now it is whole", half.tear(1), 0);
    }
  }

  private static void promise30BothHaveTheEpoch() {
    Copperleaf store = new Copperleaf();
    Checks.due("30: both have epoch 0", store.crash(), 0);
    Checks.due("30: slot 0", store.currentSlot(), 0);
    store.tear(0);
    Checks.due("30: slot 0 is torn", store.crash(), 0);
    Checks.due("30: slot 1", store.currentSlot(), 1);
    commitPut(store, 1);
    Checks.due("30: the commit wrote slot 0", store.crash(), 1);
    Checks.due("30: which is the latest", store.currentSlot(), 0);
  }

  private static void promise30OneIsTorn() {
    for (int commits = 1; commits <= 4; commits++) {
      for (int slot = 0; slot < 2; slot++) {
        String what = "30: " + commits + " commits, slot " + slot + " is torn";
        Copperleaf store = new Copperleaf();
        for (int key = 0; key < commits; key++) {
          commitPut(store, key);
        }
        store.tear(slot);
        int due = slot == commits % 2 ? commits - 1 : commits;
        Checks.due(what + ", epoch", store.crash(), due);
        Checks.due(what + ", current slot", store.currentSlot(), 1 - slot);
        Checks.due(what + ", keys", store.size(-1), due);
        Checks.due(what + ", pages", store.pagesInUse(), 1);
        Checks.due(what + ", again", store.crash(), due);
      }
    }
  }

  private static void promise30BatchAndAllReadersAreGone() {
    Copperleaf store = withReaders(15);
    store.beginBatch();
    store.put(50, 1);
    Checks.due("30: epoch", store.crash(), 4);
    Checks.due("30: batch", store.hasBatch(), false);
    Checks.due("30: readers", store.readers(), 0);
    for (int reader = 0; reader < 4; reader++) {
      dueThrow("30: reader", reader, BOUNDS, store::size);
    }
    Checks.due("30: pages", free(store), "...xx...............");
    Checks.due("30: a crash without them", store.crash(), 4);
    Checks.due("30: the first reader", store.openReader(), 0);
  }

  private static void promise31WordsAreOutOfRange() {
    Copperleaf store = batchWith(1);
    refusedOutside(0, 4, "31: words", store, ARGUMENT, store::crashInCommit);
    Copperleaf idle = new Copperleaf();
    refusedOutside(0, 4, "31: words without a batch", idle, ARGUMENT, idle::crashInCommit);
  }

  private static void promise31ThereIsNoBatch() {
    for (int words = 0; words <= 4; words++) {
      int first = words;
      noBatch("31: words " + words, store -> store.crashInCommit(first));
    }
  }

  private static void promise31TheCurrentSlotIsTorn() {
    for (int words = 0; words <= 4; words++) {
      int first = words;
      Copperleaf store = committedWith(1);
      store.tear(1);
      store.beginBatch();
      store.put(2, 2);
      if (words >= 1 && words <= 3) {
        refused("31: words " + words, store, STATE, () -> store.crashInCommit(first));
        Checks.due("31: it can still commit", store.commit(), 2);
        continue;
      }
      Checks.due("31: words " + words, store.crashInCommit(words), words == 0 ? 0 : 2);
      Checks.due("31: keys", store.size(-1), words == 0 ? 0 : 2);
      Checks.due("31: slot", store.currentSlot(), 0);
      Checks.due("31: the torn slot", store.slotWord(1, 3), -1);
    }
  }

  private static void promise31NoWordIsWritten() {
    Copperleaf store = committedWith(1);
    String before = look(store);
    store.beginBatch();
    store.put(2, 2);
    Checks.due("31: no words, epoch", store.crashInCommit(0), 1);
    Checks.due("31: all is as before the batch", look(store), before);
    store.tear(0);
    store.beginBatch();
    Checks.due("31: the other slot is torn", store.crashInCommit(0), 1);
    Checks.due("31: and stays", store.slotWord(0, 3), -1);
  }

  private static void promise31SomeWordsAreWritten() {
    long[][] due = {{2, 0, 0, 0}, {2, 2, 0, 0}, {2, 2, 2, 0}};
    for (int words = 1; words <= 3; words++) {
      Copperleaf store = committedWith(1);
      store.openReader();
      store.beginBatch();
      store.put(2, 2);
      Checks.due("31: epoch", store.crashInCommit(words), 1);
      dueWords("31: first words " + words, store, 0, due[words - 1]);
      dueWords("31: the current slot stays", store, 1, 1, 1, 1, 1001013);
      Checks.due("31: page 1 alone is left", free(store), ".x..................");
      Checks.due("31: no reader", store.readers(), 0);
      Checks.due("31: the next batch", store.beginBatch(), 2);
      Checks.due("31: torn already", store.crashInCommit(1), 1);
    }
  }

  private static void promise31AllWordsAreWritten() {
    Copperleaf store = committedWith(1);
    store.openReader();
    store.beginBatch();
    store.put(2, 2);
    Checks.due("31: all words, epoch", store.crashInCommit(4), 2);
    dueWords("31: all words", store, 0, 2, 2, 2, 2002026);
    Checks.due("31: current slot", store.currentSlot(), 0);
    Checks.due("31: its key", store.get(-1, 2), 2);
    Checks.due("31: no reader", store.readers(), 0);
    Checks.due("31: page 0 was the old state's", free(store), ".xx.................");
    store.beginBatch();
    Checks.due("31: without changes", store.crashInCommit(4), 3);
    Checks.due("31: the page is that of both slots", store.pagesInUse(), 1);
  }
}
