import java.util.ArrayList;
import java.util.List;
import java.util.TreeMap;
import java.util.function.ToIntFunction;

/** Each sentence of the head 'Terms' that names a boundary case has a test of its own here. */
public final class TermsTest extends Stores {
  private static final int[] VALUES = {MIN, -1, 0, 1, MAX};

  public static void main(String[] args) {
    keysAre0To99EachWithAnyInt();
    aLeafHasItsKeysFromTheLeastToTheGreatest();
    theKeyOfAnInnerEntryIsTheLeastBelowIt();
    treesAreSoundWhateverIsPutAndDeleted();
    aKeyBelongsToOneLeaf();
    aKeyBelongsToOneLeafThroughThreeLevels();
    atFirstPage0IsTheOnlyOne();
    aPageIsFreeIfItIsInNoTree();
    pagesAreNumberedWithoutAnEnd();
    noPageOfAStateIsEverChanged();
    aBatchBeginsWithTheTreeOfTheCurrentState();
    pagesAreWrittenAnewRootFirst();
    pagesAreWrittenAnewIntoGapsToo();
    writtenPagesAreChangedWhereTheyAre();
    aValueIsReplacedInAFullLeaf();
    aLeafOf5IsSplitWhereverTheKeyCame();
    theNewLeafFollowsItsLeaf();
    aPageAboveOf5IsSplitToo();
    aSplitEndsWhereAPageHas4();
    aLeafThatIsTheRootIsNotMended();
    aLeafOf2IsNotMended();
    aLeafOf1IsMendedByItsNeighbour();
    aLeafOf1IsMendedByWrittenPages();
    thePageBeforeIsTheNeighbourOfAMiddleLeaf();
    anInnerPageLendsItsLast();
    anInnerPageLendsItsFirst();
    innerPagesAreJoinedWithTheFormer();
    innerPagesAreJoinedWithTheLatter();
    aRootOf2StaysAndOneOf1Leaves();
    bothSlotsAreWholeAtFirst();
    aSlotIsTornWhenItsSumIsAnother();
    commitsWriteTheSlotsInTurn();
    aViewOfAReaderStaysThatOfItsState();
    theExceptionNamedFirstIsThrown();
    theLastOf512CallsIsAnswered();
    Checks.close();
  }

  // ---- keys and trees

  private static void keysAre0To99EachWithAnyInt() {
    Copperleaf store = new Copperleaf();
    store.beginBatch();
    for (int key = 0; key < 100; key++) {
      Checks.due("key " + key + " is new", store.put(key, VALUES[key % 5]), true);
    }
    store.commit();
    for (int key = 0; key < 100; key++) {
      Checks.due("value of " + key, store.get(-1, key), VALUES[key % 5]);
    }
    store.beginBatch();
    for (int key = 0; key < 100; key++) {
      Checks.due("value of " + key + " deleted", store.delete(key), VALUES[key % 5]);
    }
  }

  private static void aLeafHasItsKeysFromTheLeastToTheGreatest() {
    for (int order = 0; order < 24; order++) {
      List<Integer> left = new ArrayList<>(List.of(10, 20, 30, 40));
      Copperleaf store = batchWith();
      putAll(store, left.remove(order % 4), left.remove(order / 4 % 3), left.remove(order / 12));
      putAll(store, left.get(0));
      dueTree("order " + order, store, -1, "1(10 20 30 40)");
    }
  }

  private static void theKeyOfAnInnerEntryIsTheLeastBelowIt() {
    Copperleaf store = descending();
    int[] least = {1, 9, 13, 17};
    for (int entry = 0; entry < 4; entry++) {
      Checks.due("least key below entry " + entry, store.keyAt(8, entry), least[entry]);
    }
    store.delete(1);
    Checks.due("when the least is gone", store.keyAt(store.rootOf(-1), 0), 2);
    store.put(0, 0);
    Checks.due("when a lesser one came", store.keyAt(store.rootOf(-1), 0), 0);
    Checks.due("in the page between", store.keyAt(store.pageAt(store.rootOf(-1), 0), 0), 0);
    Checks.due("not in the state", store.keyAt(8, 0), 1);
  }

  /** After every put and delete, the tree is looked at in a store that has made as many calls. */
  private static void treesAreSoundWhateverIsPutAndDeleted() {
    int[] strides = {1, 99, 37};
    for (int stride : strides) {
      for (int puts = 0; puts <= 100; puts++) {
        soundAfter(stride, puts, 1, 0);
      }
      for (int back : strides) {
        for (int deletes = 1; deletes <= 100; deletes++) {
          soundAfter(stride, 100, back, deletes);
        }
      }
    }
  }

  private static void soundAfter(int stride, int puts, int back, int deletes) {
    String what = puts + " keys by " + stride + " without " + deletes + " by " + back;
    Copperleaf store = batchWith();
    TreeMap<Integer, Integer> due = new TreeMap<>();
    for (int i = 1; i <= puts; i++) {
      int key = i * stride % 100;
      store.put(key, i);
      due.put(key, i);
    }
    for (int i = 1; i <= deletes; i++) {
      int key = i * back % 100;
      Checks.due(what + ", value of " + key, store.delete(key), due.remove(key));
    }
    List<Integer> keys = new ArrayList<>();
    int depth = store.depth(-1);
    int least = depth == 1 ? 0 : 2;
    soundBelow(what, store, store.rootOf(-1), new int[] {least, depth}, keys);
    Checks.due(what + ", keys", keys.toString(), due.keySet().toString());
  }

  /**
   * Looks at a page with a fewest number of entries and a number of levels to the leaves, both in
   * the shape, and at those below it. Collects the keys of the leaves: were a page on the last
   * level no leaf, keys would be missing.
   */
  private static void soundBelow(
      String what, Copperleaf store, int page, int[] shape, List<Integer> keys) {
    int entries = store.entries(page);
    Checks.due(what + ", entries", entries >= shape[0] && entries <= 4, true);
    for (int entry = 0; entry < entries; entry++) {
      int key = store.keyAt(page, entry);
      int first = keys.size();
      if (shape[1] == 1) {
        keys.add(key);
      } else {
        int below = store.pageAt(page, entry);
        soundBelow(what, store, below, new int[] {2, shape[1] - 1}, keys);
      }
      Checks.due(what + ", least key", key, keys.get(first));
    }
  }

  private static void aKeyBelongsToOneLeaf() {
    dueTree("less than all keys", batchWith(10, 20, 30, 40, 50, 5), -1,
        "3(1(5 10 20 30) 2(40 50))");
    dueTree("less than the key of the second leaf by 1", batchWith(10, 20, 30, 40, 50, 39), -1,
        "3(1(10 20 30 39) 2(40 50))");
    dueTree("greater by 1", batchWith(10, 20, 30, 40, 50, 41), -1, "3(1(10 20 30) 2(40 41 50))");
    dueTree("greater than all keys", batchWith(10, 20, 30, 40, 50, 99), -1,
        "3(1(10 20 30) 2(40 50 99))");
    Copperleaf equal = committedWith(10, 20, 30, 40, 50);
    equal.beginBatch();
    equal.put(40, 1);
    dueTree("equal to the key of the second leaf", equal, -1, "4(1(10 20 30) 5(40 50))");
  }

  private static void aKeyBelongsToOneLeafThroughThreeLevels() {
    Copperleaf store = batchWith();
    for (int key = 80; key > 0; key -= 4) {
      putAll(store, key);
    }
    putAll(store, 35, 37, 51, 67, 81);
    store.delete(4);
    putAll(store, 0);
    dueTree("keys between inner pages", store, -1,
        "8(3(1(0 8 12 16) 13(20 24) 12(28 32 35)) 14(10(36 37 40) 9(44 48 51))"
            + " 11(6(52 56) 5(60 64 67)) 7(4(68 72) 2(76 80 81)))");
  }

  // ---- states and pages

  private static void atFirstPage0IsTheOnlyOne() {
    Copperleaf store = new Copperleaf();
    Checks.due("the epoch at first", store.epochOf(-1), 0);
    Checks.due("the root at first", store.rootOf(-1), 0);
    Checks.due("its entries", store.entries(0), 0);
    Checks.due("the other pages", free(store), "x...................");
  }

  private static void aPageIsFreeIfItIsInNoTree() {
    Copperleaf store = new Copperleaf();
    store.openReader();
    store.beginBatch();
    store.put(1, 1);
    Checks.due("page 1 is in the tree of the batch alone", store.isFree(1), false);
    store.commit();
    store.tear(0);
    Checks.due("page 0 is in the tree of a reader alone", store.isFree(0), false);
    store.closeReader(0);
    Checks.due("page 0 is in none", store.isFree(0), true);
    commitPut(store, 2);
    Checks.due("page 1 is in the tree of a slot alone", store.isFree(1), false);
    store.tear(0);
    Checks.due("page 0 is in the tree of the current state alone", store.isFree(0), false);
    store.crash();
    Checks.due("page 0 is in none after the crash", store.isFree(0), true);
    Checks.due("page 1 is in the current one", store.isFree(1), false);
  }

  /** Seven trees that share nothing: those of four readers, of both slots and of the batch. */
  private static void pagesAreNumberedWithoutAnEnd() {
    Copperleaf store = new Copperleaf();
    store.beginBatch();
    for (int key = 99; key >= 0; key--) {
      store.put(key, key);
    }
    for (int tree = 0; tree < 7; tree++) {
      store.commit();
      if (tree < 4) {
        store.openReader();
      }
      store.beginBatch();
      for (int key = 0; key < 100; key += 2) {
        store.put(key, tree);
      }
    }
    Checks.due("pages of one tree", store.sharedPages(-1, -1), 92);
    Checks.due("pages of seven", store.pagesInUse(), 7 * 92);
    Checks.due("the least free page is behind them", store.leastFree(), 7 * 92);
    Checks.due("the one before it", store.isFree(7 * 92 - 1), false);
    Checks.due("the page of the greatest number", store.isFree(MAX), true);
  }

  private static void noPageOfAStateIsEverChanged() {
    Copperleaf store = committedWith(10, 20, 30, 40, 50);
    String[] before = new String[4];
    for (int reader = 0; reader < 4; reader++) {
      store.openReader();
      before[reader] = lookAt(store, reader);
      commitPut(store, 41 + reader);
    }
    store.beginBatch();
    deleteAll(store, 10, 20, 30, 40, 41, 42, 50);
    putAll(store, 60, 61, 62, 63);
    store.abandon();
    store.beginBatch();
    deleteAll(store, 50, 44, 43);
    store.put(10, -5);
    store.tear(1);
    store.commit();
    commitPut(store, 20);
    for (int reader = 0; reader < 4; reader++) {
      Checks.due("state of reader " + reader, lookAt(store, reader), before[reader]);
    }
  }

  private static void aBatchBeginsWithTheTreeOfTheCurrentState() {
    Copperleaf store = committedWith(10, 20, 30, 40, 50);
    store.openReader();
    commitPut(store, 60);
    String current = tree(store, store.rootOf(-1));
    store.tear(store.currentSlot());
    store.beginBatch();
    dueTree("the batch, though the slot is torn", store, -1, current);
    Checks.due("its value", store.get(-1, 60), 600);
    refused("a second batch", store, STATE, store::beginBatch);
  }

  private static void pagesAreWrittenAnewRootFirst() {
    Copperleaf store = descending();
    store.put(3, 0);
    dueTree("root, inner page and leaf", store, -1,
        "15(16(17(1 2 3 4) 13(5 6) 12(7 8)) 14(10(9 10) 9(11 12)) 11(6(13 14) 5(15 16))"
            + " 7(4(17 18) 2(19 20)))");
  }

  private static void pagesAreWrittenAnewIntoGapsToo() {
    Copperleaf store = descending();
    store.put(3, 0);
    store.commit();
    store.beginBatch();
    store.put(20, 0);
    dueTree("page 0 and those behind all", store, -1,
        "0(16(17(1 2 3 4) 13(5 6) 12(7 8)) 14(10(9 10) 9(11 12)) 11(6(13 14) 5(15 16))"
            + " 18(4(17 18) 19(19 20)))");
    store.commit();
    store.beginBatch();
    store.put(9, 0);
    dueTree("pages 1, 3 and 8", store, -1,
        "1(16(17(1 2 3 4) 13(5 6) 12(7 8)) 3(8(9 10) 9(11 12)) 11(6(13 14) 5(15 16))"
            + " 18(4(17 18) 19(19 20)))");
  }

  private static void writtenPagesAreChangedWhereTheyAre() {
    Copperleaf store = committedWith(10, 20, 30, 40, 50);
    store.beginBatch();
    store.put(40, 0);
    store.put(45, 0);
    dueTree("a key more", store, -1, "4(1(10 20 30) 5(40 45 50))");
    store.delete(45);
    dueTree("a key less", store, -1, "4(1(10 20 30) 5(40 50))");
    store.put(10, 0);
    dueTree("the root is written, the other leaf is not", store, -1, "4(6(10 20 30) 5(40 50))");
    Checks.due("the least free page", store.leastFree(), 7);
  }

  // ---- puts

  private static void aValueIsReplacedInAFullLeaf() {
    for (int key = 10; key <= 40; key += 10) {
      Copperleaf store = batchWith(10, 20, 30, 40);
      Checks.due("new is " + key, store.put(key, -key), false);
      Checks.due("value of " + key, store.get(-1, key), -key);
      dueTree("the leaf stays", store, -1, "1(10 20 30 40)");
    }
  }

  private static void aLeafOf5IsSplitWhereverTheKeyCame() {
    String[] trees = {
      "3(1(5 10 20) 2(30 40))", "3(1(10 15 20) 2(30 40))", "3(1(10 20 25) 2(30 40))",
      "3(1(10 20 30) 2(35 40))", "3(1(10 20 30) 2(40 45))"
    };
    for (int i = 0; i < 5; i++) {
      int fifth = 5 + 10 * i;
      Copperleaf store = batchWith(10, 20, 30, 40, fifth);
      dueTree("fifth key " + fifth, store, -1, trees[i]);
      for (int key : new int[] {10, 20, 30, 40, fifth}) {
        Checks.due("value of " + key + " beside " + fifth, store.get(-1, key), 10 * key);
      }
    }
  }

  private static void theNewLeafFollowsItsLeaf() {
    dueTree("behind the first", batchWith(10, 20, 30, 40, 50, 15, 25), -1,
        "3(1(10 15 20) 4(25 30) 2(40 50))");
    Copperleaf store = batchWith(10, 20, 30, 40, 50, 60, 70, 80);
    dueTree("behind the last", store, -1, "3(1(10 20 30) 2(40 50 60) 4(70 80))");
    putAll(store, 55, 65);
    dueTree("behind one in the middle", store, -1,
        "3(1(10 20 30) 2(40 50 55) 5(60 65) 4(70 80))");
  }

  /** A tree of three levels: a root with two inner pages, of three and of two leaves. */
  private static Copperleaf threeLevels() {
    return batchWith(10, 20, 30, 40, 50, 60, 70, 80, 55, 65, 85, 90, 95);
  }

  private static void aPageAboveOf5IsSplitToo() {
    dueTree("4 leaves", batchWith(10, 20, 30, 40, 50, 60, 70, 80, 55, 65, 85, 90), -1,
        "3(1(10 20 30) 2(40 50 55) 5(60 65) 4(70 80 85 90))");
    dueTree("5 leaves", threeLevels(), -1,
        "8(3(1(10 20 30) 2(40 50 55) 5(60 65)) 7(4(70 80 85) 6(90 95)))");
  }

  private static void aSplitEndsWhereAPageHas4() {
    Copperleaf store = threeLevels();
    putAll(store, 11, 12);
    dueTree("the page above has 4", store, -1,
        "8(3(1(10 11 12) 9(20 30) 2(40 50 55) 5(60 65)) 7(4(70 80 85) 6(90 95)))");
    putAll(store, 13, 14);
    dueTree("the root has 3", store, -1,
        "8(3(1(10 11 12) 10(13 14) 9(20 30)) 11(2(40 50 55) 5(60 65)) 7(4(70 80 85) 6(90 95)))");
  }

  // ---- deletes

  private static void aLeafThatIsTheRootIsNotMended() {
    Copperleaf store = batchWith(10, 20);
    store.delete(10);
    dueTree("1 entry", store, -1, "1(20)");
    store.delete(20);
    dueTree("no entry", store, -1, "1()");
    Checks.due("its depth", store.depth(-1), 1);
  }

  private static void aLeafOf2IsNotMended() {
    Copperleaf first = batchWith(10, 20, 30, 40, 50);
    first.delete(20);
    dueTree("the first leaf", first, -1, "3(1(10 30) 2(40 50))");
    Copperleaf last = batchWith(10, 20, 30, 40, 50, 60);
    last.delete(60);
    dueTree("the last leaf", last, -1, "3(1(10 20 30) 2(40 50))");
  }

  /** A batch whose root, 3, is above leaf 1 of keys from 11 on and leaf 2 of keys from 51 on. */
  private static Copperleaf twoLeaves(int left, int right) {
    Copperleaf store = batchWith(11, 12, 13, 51, 52);
    for (int key = 14; key <= 10 + left; key++) {
      putAll(store, key);
    }
    for (int key = 53; key <= 50 + right; key++) {
      putAll(store, key);
    }
    if (left == 2) {
      store.delete(13);
    }
    return store;
  }

  /** Deletes keys from a least one on until only the greatest one is left of a leaf. */
  private static void deleteAllBut1(Copperleaf store, int least, int count) {
    for (int key = least; key < least + count - 1; key++) {
      store.delete(key);
    }
  }

  private static void aLeafOf1IsMendedByItsNeighbour() {
    String[] before = {"6(11 12 K)", "4(6(11 12) 5(13 K))", "4(6(11 12 13) 5(14 K))"};
    String[] after = {"5(K 51 52)", "4(5(K 51) 6(52 53))", "4(5(K 51) 6(52 53 54))"};
    String[] free = {"xxxx..x", "xxxxxxx", "xxxxxxx", "xxxx.x.", "xxxxxxx", "xxxxxxx"};
    for (int own = 2; own <= 4; own++) {
      for (int other = 2; other <= 4; other++) {
        String what = "a leaf of " + own + " and its neighbour of " + other;
        Copperleaf right = twoLeaves(other, own);
        right.commit();
        mendRight(what, right, own, before[other - 2]);
        Checks.due(what + ", pages", free(right).substring(0, 7), free[other - 2]);
        Copperleaf left = twoLeaves(own, other);
        left.commit();
        mendLeft(what, left, own, after[other - 2]);
        Checks.due(what + ", pages", free(left).substring(0, 7), free[other + 1]);
      }
    }
  }

  private static void mendRight(String what, Copperleaf store, int right, String due) {
    if (!store.hasBatch()) {
      store.beginBatch();
    }
    deleteAllBut1(store, 51, right);
    dueTree(what + " before", store, -1, due.replace("K", "" + (50 + right)));
    Checks.due(what + " before, value", store.get(-1, 50 + right), 10 * (50 + right));
  }

  private static void mendLeft(String what, Copperleaf store, int left, String due) {
    if (!store.hasBatch()) {
      store.beginBatch();
    }
    deleteAllBut1(store, 11, left);
    dueTree(what + " behind", store, -1, due.replace("K", "" + (10 + left)));
    Checks.due(what + " behind, value", store.get(-1, 51), 510);
  }

  private static void aLeafOf1IsMendedByWrittenPages() {
    String[] before = {"1(11 12 K)", "3(1(11 12) 2(13 K))", "3(1(11 12 13) 2(14 K))"};
    String[] after = {"1(K 51 52)", "3(1(K 51) 2(52 53))", "3(1(K 51) 2(52 53 54))"};
    for (int own = 2; own <= 4; own++) {
      for (int other = 2; other <= 4; other++) {
        String what = "a written leaf of " + own + " and its neighbour of " + other;
        Copperleaf right = twoLeaves(other, own);
        mendRight(what, right, own, before[other - 2]);
        Copperleaf left = twoLeaves(own, other);
        mendLeft(what, left, own, after[other - 2]);
        String pages = other == 2 ? "xx.." : "xxxx";
        Checks.due(what + " before, pages", free(right).substring(0, 4), pages);
        Checks.due(what + " behind, pages", free(left).substring(0, 4), pages);
      }
    }
  }

  private static void thePageBeforeIsTheNeighbourOfAMiddleLeaf() {
    Copperleaf store = batchWith(10, 20, 30, 40, 50, 60, 70, 80, 90, 95);
    store.delete(30);
    store.commit();
    dueTree("leaves of 2, 3 and 4", store, -1, "3(1(10 20) 2(40 50 60) 4(70 80 90 95))");
    store.beginBatch();
    deleteAll(store, 40, 50);
    dueTree("joined though the page behind could lend", store, -1,
        "5(7(10 20 60) 4(70 80 90 95))");
  }

  /** A batch with the keys from 0 on: leaves of 3 keys, and of those 3 below an inner page. */
  private static Copperleaf ascending(int count) {
    return batchWith(upTo(count));
  }

  private static void anInnerPageLendsItsLast() {
    Copperleaf store = ascending(14);
    store.commit();
    dueTree("inner pages of 3 and 2", store, -1,
        "8(3(1(0 1 2) 2(3 4 5) 4(6 7 8)) 7(5(9 10 11) 6(12 13)))");
    store.beginBatch();
    deleteAll(store, 9, 10);
    dueTree("the former lends", store, -1,
        "9(12(1(0 1 2) 2(3 4 5)) 10(4(6 7 8) 11(11 12 13)))");
  }

  private static void anInnerPageLendsItsFirst() {
    Copperleaf store = ascending(17);
    deleteAll(store, 6, 7, 5, 3, 4);
    dueTree("inner pages of 2 and 3", store, -1,
        "8(3(1(0 1) 2(2 8)) 7(5(9 10 11) 6(12 13 14) 9(15 16)))");
    store.delete(2);
    dueTree("the latter lends", store, -1,
        "8(3(1(0 1 8) 5(9 10 11)) 7(6(12 13 14) 9(15 16)))");
  }

  /** Inner pages of 2 leaves each. */
  private static Copperleaf fourLeaves() {
    Copperleaf store = ascending(14);
    deleteAll(store, 0, 1, 2);
    dueTree("inner pages of 2 and 2", store, -1,
        "8(3(1(3 4 5) 4(6 7 8)) 7(5(9 10 11) 6(12 13)))");
    return store;
  }

  private static void innerPagesAreJoinedWithTheFormer() {
    Copperleaf store = fourLeaves();
    deleteAll(store, 9, 10);
    dueTree("the latter is mended", store, -1, "3(1(3 4 5) 4(6 7 8) 5(11 12 13))");
    Checks.due("its pages", free(store), "xx.xxx..............");
    Checks.due("its depth", store.depth(-1), 2);
  }

  private static void innerPagesAreJoinedWithTheLatter() {
    Copperleaf store = fourLeaves();
    deleteAll(store, 3, 4, 5);
    dueTree("the former is mended", store, -1, "3(1(6 7 8) 5(9 10 11) 6(12 13))");
    Checks.due("its pages", free(store), "xx.x.xx.............");
    Checks.due("its depth", store.depth(-1), 2);
  }

  private static void aRootOf2StaysAndOneOf1Leaves() {
    Copperleaf store = batchWith(10, 20, 30, 40, 50, 60, 70, 80);
    deleteAll(store, 10, 20, 40);
    dueTree("3 leaves became 2", store, -1, "3(1(30 50 60) 4(70 80))");
    deleteAll(store, 70);
    dueTree("the root of 2 stays", store, -1, "3(1(30 50) 4(60 80))");
    deleteAll(store, 80);
    dueTree("the root of 1 leaves", store, -1, "1(30 50 60)");
    Checks.due("its page is free", store.isFree(3), true);
  }

  // ---- slots, views, calls

  private static void bothSlotsAreWholeAtFirst() {
    Copperleaf store = new Copperleaf();
    for (int slot = 0; slot < 2; slot++) {
      dueWords("slot " + slot + " at first", store, slot, 0, 0, 0, 0);
      Checks.due("slot " + slot + " is whole", store.isWhole(slot), true);
    }
    Checks.due("the current slot", store.currentSlot(), 0);
  }

  private static void aSlotIsTornWhenItsSumIsAnother() {
    Copperleaf store = new Copperleaf();
    store.tear(1);
    Checks.due("a sum of -1", store.isWhole(1), false);
    for (int words = 1; words <= 3; words++) {
      store.beginBatch();
      store.crashInCommit(words);
      Checks.due("a batch without changes, words " + words, store.isWhole(1), false);
    }
    dueWords("all words but the sum", store, 1, 1, 0, 0, -1);
    store.beginBatch();
    store.commit();
    Checks.due("all words", store.isWhole(1), true);
    store.beginBatch();
    store.crashInCommit(1);
    Checks.due("the sum of another epoch", store.isWhole(0), false);
    dueWords("a slot of two states", store, 0, 2, 0, 0, 0);
  }

  private static void commitsWriteTheSlotsInTurn() {
    Copperleaf store = new Copperleaf();
    for (int epoch = 1; epoch <= 6; epoch++) {
      commitPut(store, 1);
      Checks.due("slot of epoch " + epoch, store.currentSlot(), epoch % 2);
      Checks.due("its epoch", store.slotWord(epoch % 2, 0), epoch);
      Checks.due("that of the other slot", store.slotWord((epoch + 1) % 2, 0), epoch - 1);
    }
  }

  private static void aViewOfAReaderStaysThatOfItsState() {
    Copperleaf store = withReaders(15);
    store.beginBatch();
    store.put(50, 1);
    for (int reader = 0; reader < 4; reader++) {
      Checks.due("keys of reader " + reader, store.size(reader), reader);
      Checks.due("root of reader " + reader, store.rootOf(reader), reader);
    }
    Checks.due("-1 is the tree of the batch", store.size(-1), 5);
    store.abandon();
    Checks.due("-1 is the current state", store.size(-1), 4);
  }

  private static void theExceptionNamedFirstIsThrown() {
    firstThrown("put: key, no batch", ARGUMENT, store -> store.put(100, 0) ? 1 : 0);
    firstThrown("delete: key, no batch", ARGUMENT, store -> store.delete(-1));
    firstThrown("delete: no batch, no such key", STATE, store -> store.delete(50));
    firstThrown("get: view, key", BOUNDS, store -> store.get(0, 100));
    firstThrown("get: view, no such key", BOUNDS, store -> store.get(4, 50));
    firstThrown("get: key", ARGUMENT, store -> store.get(-1, 100));
    firstThrown("tear: slot, the other is torn", BOUNDS, store -> store.tear(2));
    firstThrown("crashInCommit: words, no batch", ARGUMENT, store -> store.crashInCommit(5));
  }

  /** A store without a batch and readers, of one key, whose current slot is torn. */
  private static void firstThrown(String what, String due, ToIntFunction<Copperleaf> call) {
    Copperleaf store = committedWith(10);
    store.tear(1);
    refused(what, store, due, () -> call.applyAsInt(store));
  }

  private static void theLastOf512CallsIsAnswered() {
    Copperleaf store = batchWith(upTo(100));
    for (int key = 0; key < 100; key++) {
      store.delete(key);
      store.put(key, -key);
    }
    store.commit();
    for (int batch = 0; batch < 69; batch++) {
      store.beginBatch();
      store.put(batch, batch);
      store.commit();
    }
    Checks.due("call 510: keys", store.size(-1), 100);
    Checks.due("call 511: greatest key", store.get(-1, 99), -99);
    Checks.due("call 512: epoch", store.epochOf(-1), 70);
  }
}
