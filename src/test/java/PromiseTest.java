import java.util.function.IntBinaryOperator;

/** Each promise of the document by itself: ordinary inputs, the edges, wrong inputs. */
public final class PromiseTest extends Stores {
  public static void main(String[] args) {
    promise1();
    promise2();
    promise3();
    promise4();
    promise4Splits();
    promise4WritesAnew();
    promise5();
    promise5Lends();
    promise5Joins();
    promise5UsesPagesThatLeft();
    promise6();
    promise7();
    promise8();
    promise9();
    promise10();
    promise11();
    promise12();
    promise13();
    promise14();
    promise15();
    promise16();
    promise17();
    promise18();
    promise19();
    promise20();
    promise21();
    promise22();
    promise23();
    promise24();
    promise25();
    promise26();
    promise27();
    promise28();
    promise29();
    promise30();
    promise31();
    callsThatThrowChangeNothing();
    callsThatThrowInABatchChangeNothing();
    Checks.close();
  }

  // ---- the promises

  private static void promise1() {
    Copperleaf store = new Copperleaf();
    Checks.due("1: NONE", Copperleaf.NONE, -1);
    Checks.due("1: size", store.size(-1), 0);
    Checks.due("1: epoch", store.epochOf(-1), 0);
    Checks.due("1: depth", store.depth(-1), 1);
    Checks.due("1: pages in use", store.pagesInUse(), 1);
    Checks.due("1: slot", store.currentSlot(), 0);
    Checks.due("1: batch", store.hasBatch(), false);
    Checks.due("1: readers", store.readers(), 0);
    dueTree("1: tree", store, -1, "0()");
    Copperleaf other = batchWith(5);
    Checks.due("1: size beside another store", store.size(-1), 0);
    Checks.due("1: size of the other", other.size(-1), 1);
  }

  private static void promise2() {
    Copperleaf store = new Copperleaf();
    Checks.due("2: first epoch", store.beginBatch(), 1);
    Checks.due("2: pages in use", store.pagesInUse(), 1);
    Checks.due("2: root of the batch", store.rootOf(-1), 0);
    Checks.state("2: second batch", store::beginBatch);
    store.commit();
    Checks.due("2: next epoch", store.beginBatch(), 2);
    store.abandon();
    Checks.due("2: epoch after abandon", store.beginBatch(), 2);
    store.put(1, 1);
    store.commit();
    store.tear(0);
    store.crash();
    Checks.due("2: epoch after a fall back", store.beginBatch(), 2);
    dueTree("2: it begins with the current tree", store, -1, "0()");
  }

  private static void promise3() {
    Copperleaf store = new Copperleaf();
    Checks.due("3: none at first", store.hasBatch(), false);
    store.beginBatch();
    Checks.due("3: begun", store.hasBatch(), true);
    store.put(1, 1);
    store.openReader();
    store.tear(0);
    Checks.due("3: still there", store.hasBatch(), true);
    store.commit();
    Checks.due("3: committed", store.hasBatch(), false);
    store.beginBatch();
    store.abandon();
    Checks.due("3: abandoned", store.hasBatch(), false);
    store.beginBatch();
    store.crash();
    Checks.due("3: crashed", store.hasBatch(), false);
    store.beginBatch();
    store.crashInCommit(4);
    Checks.due("3: crashed in commit", store.hasBatch(), false);
  }

  private static void promise4() {
    Copperleaf store = new Copperleaf();
    Checks.state("4: no batch", () -> store.put(0, 0));
    Checks.argument("4: key -1 without a batch", () -> store.put(-1, 0));
    store.beginBatch();
    Checks.argument("4: key -1", () -> store.put(-1, 0));
    Checks.argument("4: key 100", () -> store.put(100, 0));
    Checks.argument("4: least key", () -> store.put(MIN, 0));
    Checks.argument("4: greatest key", () -> store.put(MAX, 0));
    Checks.due("4: nothing is written by these", store.rootOf(-1), 0);
    Checks.due("4: key 0", store.put(0, MIN), true);
    Checks.due("4: key 99", store.put(99, MAX), true);
    Checks.due("4: key 0 again", store.put(0, -7), false);
    Checks.due("4: its value", store.get(-1, 0), -7);
    Checks.due("4: the other value", store.get(-1, 99), MAX);
    Checks.due("4: size", store.size(-1), 2);
    Checks.due("4: the current state has no keys", store.slotWord(0, 2), 0);
    store.commit();
    Checks.state("4: batch is over", () -> store.put(0, 0));
  }

  private static void promise4Splits() {
    Copperleaf store = batchWith(10, 20, 30, 40);
    dueTree("4: four in a leaf", store, -1, "1(10 20 30 40)");
    putAll(store, 25);
    dueTree("4: the 2 greatest keys go to the least free page, the new root to that behind", store,
        -1, "3(1(10 20 25) 2(30 40))");
    putAll(store, 5, 7);
    dueTree("4: the split page follows its leaf", store, -1, "3(1(5 7 10) 4(20 25) 2(30 40))");
    putAll(store, 22);
    dueTree("4: a key between leaves belongs to the former", store, -1,
        "3(1(5 7 10) 4(20 22 25) 2(30 40))");
    putAll(store, 23, 24, 8, 9);
    dueTree("4: a full root that is an inner page", store, -1,
        "8(3(1(5 7 8) 6(9 10) 4(20 22 23)) 7(5(24 25) 2(30 40)))");
    Checks.due("4: a value that moved with its key", store.get(-1, 24), 240);
    Checks.due("4: pages in use", store.pagesInUse(), 9);
  }

  private static void promise4WritesAnew() {
    Copperleaf store = committedWith(10, 20, 30, 40, 50);
    dueTree("4: committed", store, -1, "3(1(10 20 30) 2(40 50))");
    store.beginBatch();
    store.put(40, 400);
    dueTree("4: the root is written first, then the leaf, though the value is the same", store, -1,
        "4(1(10 20 30) 5(40 50))");
    store.put(50, 1);
    dueTree("4: written pages are changed where they are", store, -1, "4(1(10 20 30) 5(40 50))");
    store.put(5, 1);
    dueTree("4: the other leaf is written anew", store, -1, "4(6(5 10 20 30) 5(40 50))");
    store.openReader();
    dueTree("4: the state is not touched", store, 0, "3(1(10 20 30) 2(40 50))");
    Checks.due("4: nor its values", store.get(0, 50), 500);
    store.commit();
    commitPut(store, 6);
    dueTree("4: a new batch copies what the last one wrote, to the least free pages", store, -1,
        "0(7(5 6 10) 8(20 30) 5(40 50))");
  }

  private static void promise5() {
    Copperleaf store = committedWith(0, 10, 99);
    Checks.argument("5: key -1 without a batch", () -> store.delete(-1));
    Checks.state("5: no batch", () -> store.delete(10));
    Checks.state("5: no batch, key not there", () -> store.delete(11));
    store.beginBatch();
    Checks.argument("5: key -1", () -> store.delete(-1));
    Checks.argument("5: key 100", () -> store.delete(100));
    Checks.argument("5: least key", () -> store.delete(MIN));
    Checks.argument("5: greatest key", () -> store.delete(MAX));
    Checks.missing("5: key not there", () -> store.delete(11));
    dueTree("5: nothing is written for these", store, -1, "1(0 10 99)");
    Checks.due("5: value", store.delete(10), 100);
    Checks.missing("5: deleted already", () -> store.delete(10));
    Checks.due("5: value of 0", store.delete(0), 0);
    Checks.due("5: value of 99", store.delete(99), 990);
    Checks.due("5: size", store.size(-1), 0);
    dueTree("5: a root without entries", store, -1, "2()");
    Checks.missing("5: from a tree without keys", () -> store.delete(0));
    store.openReader();
    dueTree("5: the state keeps its keys", store, 0, "1(0 10 99)");
    Checks.due("5: put again", store.put(10, -1), true);
    Checks.due("5: a value of -1", store.delete(10), -1);
  }

  private static void promise5Lends() {
    Copperleaf store = committedWith(10, 20, 30, 40, 50);
    store.beginBatch();
    store.delete(40);
    dueTree("5: the page before lends its last entry", store, -1, "4(6(10 20) 5(30 50))");
    Checks.due("5: with its value", store.get(-1, 30), 300);
    store.openReader();
    dueTree("5: the state is not touched", store, 0, "3(1(10 20 30) 2(40 50))");
    Copperleaf other = committedWith(10, 20, 30, 40, 50, 60);
    other.beginBatch();
    other.delete(10);
    dueTree("5: two entries are enough", other, -1, "4(5(20 30) 2(40 50 60))");
    other.delete(20);
    dueTree("5: the page after lends its first entry", other, -1, "4(5(30 40) 6(50 60))");
    Checks.due("5: with its value", other.get(-1, 40), 400);
    Copperleaf middle = committedWith(10, 20, 30, 40, 50, 60, 70, 80, 5);
    dueTree("5: three leaves", middle, -1, "3(1(5 10 20 30) 2(40 50 60) 4(70 80))");
    middle.beginBatch();
    middle.delete(40);
    middle.delete(50);
    dueTree("5: the page before is asked first", middle, -1, "5(7(5 10 20) 6(30 60) 4(70 80))");
    Copperleaf deep = descending();
    deep.delete(9);
    dueTree("5: an inner page lends", deep, -1,
        "15(18(1(1 2 3 4) 13(5 6)) 16(12(7 8) 17(10 11 12)) 11(6(13 14) 5(15 16))"
            + " 7(4(17 18) 2(19 20)))");
  }

  private static void promise5Joins() {
    Copperleaf store = committedWith(10, 20, 30, 40, 50, 60, 70, 80);
    dueTree("5: three leaves", store, -1, "3(1(10 20 30) 2(40 50 60) 4(70 80))");
    store.beginBatch();
    store.delete(10);
    store.delete(40);
    store.delete(50);
    dueTree("5: joined with the page before", store, -1, "5(6(20 30 60) 4(70 80))");
    Checks.due("5: the latter is free", store.isFree(7), true);
    store.delete(70);
    dueTree("5: a free page is taken, then lent to", store, -1, "5(6(20 30) 7(60 80))");
    store.delete(20);
    dueTree("5: joined with the page after, and the root leaves", store, -1, "6(30 60 80)");
    Checks.due("5: the root and the latter are free", free(store), "xxxxx.x.............");
    Checks.due("5: a value that moved", store.get(-1, 80), 800);
    Checks.due("5: depth", store.depth(-1), 1);
    Copperleaf other = committedWith(10, 20, 30, 40, 50);
    other.beginBatch();
    other.delete(10);
    other.commit();
    dueTree("5: two leaves", other, -1, "4(5(20 30) 2(40 50))");
    other.beginBatch();
    other.delete(40);
    dueTree("5: the former is written anew while the latter is in the tree", other, -1,
        "7(20 30 50)");
    other.abandon();
    other.beginBatch();
    other.delete(20);
    dueTree("5: the latter need not be written", other, -1, "6(30 40 50)");
    other.openReader();
    dueTree("5: the state is not touched", other, 0, "4(5(20 30) 2(40 50))");
  }

  private static void promise5UsesPagesThatLeft() {
    Copperleaf store = descending();
    store.delete(20);
    dueTree("5: a page that left below is taken for the join above", store, -1,
        "15(3(1(1 2 3 4) 13(5 6) 12(7 8)) 14(10(9 10) 9(11 12))"
            + " 17(6(13 14) 5(15 16) 18(17 18 19)))");
    Checks.due("5: the inner page that left is free", free(store), "xxxxxxxxxxxxxxxx.xx.");
    for (int key = 1; key < 20; key++) {
      Checks.due("5: value of " + key, store.delete(key), 10 * key);
    }
    Checks.due("5: no key is left", store.size(-1), 0);
    Checks.due("5: one page for the batch", store.pagesInUse(), 16);
  }

  private static void promise6() {
    Copperleaf store = new Copperleaf();
    Checks.state("6: no batch", store::commit);
    store.beginBatch();
    putAll(store, 10, 20, 30, 40, 50);
    Checks.due("6: epoch", store.commit(), 1);
    Checks.due("6: the batch ends", store.hasBatch(), false);
    Checks.due("6: slot", store.currentSlot(), 1);
    dueWords("6: its words", store, 1, 1, 3, 5, 1003035);
    dueWords("6: the other slot", store, 0, 0, 0, 0, 0);
    Checks.due("6: the state is the current one", store.epochOf(-1), 1);
    Checks.due("6: and its size", store.size(-1), 5);
    store.beginBatch();
    store.put(40, 0);
    Checks.due("6: next epoch", store.commit(), 2);
    Checks.due("6: slots in turn", store.currentSlot(), 0);
    dueWords("6: the first slot", store, 0, 2, 4, 5, 2004047);
    dueWords("6: the second slot stays", store, 1, 1, 3, 5, 1003035);
    Checks.due("6: the state before the last is gone", free(store), ".xxxxx..............");
    store.beginBatch();
    Checks.due("6: a batch without changes", store.commit(), 3);
    dueWords("6: has the same page", store, 1, 3, 4, 5, 3004050);
    Checks.due("6: and frees what only the last one had", free(store), ".x..xx..............");
    Checks.state("6: the batch is over", store::commit);
    store.tear(1);
    commitPut(store, 60);
    Checks.due("6: when the current slot is torn the other one is written", store.currentSlot(), 0);
    Checks.due("6: and the torn one stays torn", store.slotWord(1, 3), -1);
    commitPut(store, 61);
    Checks.due("6: until its turn", store.isWhole(1), true);
  }

  private static void promise7() {
    Copperleaf store = new Copperleaf();
    Checks.state("7: no batch", store::abandon);
    store.beginBatch();
    Checks.due("7: nothing was written", store.abandon(), 0);
    Checks.due("7: the batch ends", store.hasBatch(), false);
    store.beginBatch();
    putAll(store, 10, 20, 30, 40, 50);
    Checks.due("7: three pages become free", store.abandon(), 3);
    dueTree("7: the current state", store, -1, "0()");
    Checks.due("7: epoch", store.epochOf(-1), 0);
    Checks.due("7: least free page", store.leastFree(), 1);
    Checks.due("7: slot", store.currentSlot(), 0);
    Checks.state("7: it is over", store::abandon);
    commitPut(store, 1);
    store.beginBatch();
    store.put(2, 2);
    Checks.due("7: a page that a state has stays", store.abandon(), 1);
    Checks.due("7: and its keys", store.get(-1, 1), 10);
  }

  private static void promise8() {
    Copperleaf store = new Copperleaf();
    store.beginBatch();
    store.put(1, 1);
    for (int reader = 0; reader < 4; reader++) {
      Checks.due("8: number", store.openReader(), reader);
    }
    Checks.state("8: a fifth", store::openReader);
    Checks.due("8: it reads the current state, not the batch", store.size(3), 0);
    Checks.due("8: and has its epoch", store.epochOf(3), 0);
    store.closeReader(2);
    store.closeReader(1);
    store.commit();
    Checks.due("8: the least number", store.openReader(), 1);
    Checks.due("8: the next one", store.openReader(), 2);
    Checks.due("8: it reads what was committed", store.get(1, 1), 1);
    commitPut(store, 2);
    Checks.due("8: and keeps it", store.size(1), 1);
    Checks.due("8: as the first one does", store.size(0), 0);
    store.crash();
    Checks.due("8: after a crash", store.openReader(), 0);
  }

  private static void promise9() {
    Copperleaf store = new Copperleaf();
    for (int reader : new int[] {-1, 0, 1, 3, 4, MIN, MAX}) {
      Checks.bounds("9: reader " + reader, () -> store.closeReader(reader));
    }
    store.openReader();
    store.openReader();
    Checks.due("9: the current state keeps its page", store.closeReader(0), 0);
    Checks.bounds("9: closed already", () -> store.closeReader(0));
    Checks.bounds("9: -1 is no reader", () -> store.closeReader(-1));
    Checks.bounds("9: 4 is no reader", () -> store.closeReader(4));
    commitPut(store, 1);
    store.openReader();
    commitPut(store, 2);
    Checks.due("9: only this reader has page 0", store.closeReader(1), 1);
    Checks.due("9: it is free", store.isFree(0), true);
    Checks.due("9: a slot has the state too", store.closeReader(0), 0);
    Copperleaf other = committedWith(10, 20, 30, 40, 50);
    other.openReader();
    other.openReader();
    commitPut(other, 40);
    commitPut(other, 40);
    Checks.due("9: two readers have it", other.closeReader(0), 0);
    Checks.due("9: one leaf is in the current tree", other.closeReader(1), 2);
  }

  private static void promise10() {
    Copperleaf store = new Copperleaf();
    for (int reader = 0; reader < 4; reader++) {
      Checks.due("10: readers", store.readers(), reader);
      store.openReader();
    }
    Checks.due("10: all", store.readers(), 4);
    store.closeReader(1);
    store.closeReader(3);
    Checks.due("10: two of four", store.readers(), 2);
    store.crash();
    Checks.due("10: a crash closes them", store.readers(), 0);
    store.openReader();
    store.beginBatch();
    store.crashInCommit(4);
    Checks.due("10: one in a commit too", store.readers(), 0);
  }

  private static void promise11() {
    Copperleaf store = committedWith(10, 20, 30, 40, 50);
    for (int reader : new int[] {-1, 0, 3, 4, MIN, MAX}) {
      Checks.bounds("11: reader " + reader, () -> store.heldBy(reader));
    }
    store.openReader();
    Checks.due("11: the current state", store.heldBy(0), 0);
    commitPut(store, 40);
    Checks.due("11: the state of the other slot", store.heldBy(0), 0);
    commitPut(store, 40);
    Checks.due("11: a leaf is still in the current tree", store.heldBy(0), 2);
    commitPut(store, 10);
    Checks.due("11: and in that of the other slot", store.heldBy(0), 2);
    commitPut(store, 10);
    Checks.due("11: now it has all alone", store.heldBy(0), 3);
    Checks.due("11: asking changes nothing", store.heldBy(0), 3);
    Checks.due("11: it is open", store.readers(), 1);
    store.openReader();
    Checks.due("11: another state", store.heldBy(1), 0);
    Checks.due("11: does not matter", store.heldBy(0), 3);
    int before = store.pagesInUse();
    Checks.due("11: as many become free", store.closeReader(0), 3);
    Checks.due("11: indeed", store.pagesInUse(), before - 3);
    Checks.bounds("11: closed", () -> store.heldBy(0));
    Copperleaf torn = committedWith(1);
    torn.openReader();
    torn.tear(1);
    torn.beginBatch();
    torn.put(2, 2);
    Checks.due("11: the current state has it though its slot is torn", torn.heldBy(0), 0);
    torn.commit();
    Checks.due("11: now the reader alone", torn.heldBy(0), 1);
  }

  private static void promise12() {
    Copperleaf store = twoTrees();
    noSuchViews("12: epoch", store::epochOf);
    Checks.due("12: of the batch", store.epochOf(-1), 2);
    Checks.due("12: of the reader", store.epochOf(0), 1);
    store.abandon();
    Checks.due("12: of the current state", store.epochOf(-1), 1);
    commitPut(store, 1);
    Checks.due("12: of what was committed", store.epochOf(-1), 2);
    Checks.due("12: the reader keeps its own", store.epochOf(0), 1);
    store.closeReader(0);
    Checks.bounds("12: of a closed reader", () -> store.epochOf(0));
  }

  private static void promise13() {
    Copperleaf store = twoTrees();
    noSuchViews("13: value", view -> store.get(view, 20));
    Checks.bounds("13: view and key are wrong", () -> store.get(1, 100));
    for (int view = -1; view <= 0; view++) {
      int tree = view;
      Checks.argument("13: key -1", () -> store.get(tree, -1));
      Checks.argument("13: key 100", () -> store.get(tree, 100));
      Checks.argument("13: least key", () -> store.get(tree, MIN));
      Checks.missing("13: key 0", () -> store.get(tree, 0));
      Checks.missing("13: key 99", () -> store.get(tree, 99));
      Checks.missing("13: key 25", () -> store.get(tree, 25));
      Checks.due("13: key 50", store.get(tree, 50), 500);
    }
    Checks.missing("13: deleted in the batch", () -> store.get(-1, 10));
    Checks.due("13: not in the state", store.get(0, 10), 100);
    Checks.due("13: put in the batch", store.get(-1, 60), 1);
    Checks.missing("13: not in the state", () -> store.get(0, 60));
    store.put(20, Copperleaf.NONE);
    Checks.due("13: a new value", store.get(-1, 20), -1);
    Checks.due("13: the old one", store.get(0, 20), 200);
  }

  private static void promise14() {
    Copperleaf store = twoTrees();
    noSuchViews("14: next", view -> store.next(view, 0));
    Checks.due("14: from the least number", store.next(0, MIN), 10);
    Checks.due("14: from a key", store.next(0, 10), 10);
    Checks.due("14: from behind it", store.next(0, 11), 20);
    Checks.due("14: over the end of a leaf", store.next(0, 31), 40);
    Checks.due("14: the greatest", store.next(0, 50), 50);
    Checks.due("14: behind it", store.next(0, 51), -1);
    Checks.due("14: from the greatest number", store.next(0, MAX), -1);
    Checks.due("14: in the batch, from -5", store.next(-1, -5), 20);
    Checks.due("14: in the batch, from 51", store.next(-1, 51), 60);
    Copperleaf none = new Copperleaf();
    Checks.due("14: without keys", none.next(-1, MIN), -1);
    Copperleaf ends = committedWith(0, 99);
    Checks.due("14: key 0", ends.next(-1, 0), 0);
    Checks.due("14: key 99", ends.next(-1, 1), 99);
    Checks.due("14: from 100", ends.next(-1, 100), -1);
  }

  private static void promise15() {
    Copperleaf store = twoTrees();
    noSuchViews("15: rank", view -> store.rank(view, 0));
    Checks.due("15: of the least number", store.rank(0, MIN), 0);
    Checks.due("15: of the least key", store.rank(0, 10), 0);
    Checks.due("15: behind it", store.rank(0, 11), 1);
    Checks.due("15: of a key in the second leaf", store.rank(0, 40), 3);
    Checks.due("15: of the greatest key", store.rank(0, 50), 4);
    Checks.due("15: behind it", store.rank(0, 51), 5);
    Checks.due("15: of the greatest number", store.rank(0, MAX), 5);
    Checks.due("15: in the batch", store.rank(-1, 51), 4);
    Checks.due("15: without keys", new Copperleaf().rank(-1, MAX), 0);
    Copperleaf full = batchWith(upTo(100));
    for (int than = 0; than <= 100; than++) {
      Checks.due("15: of " + than + " among all", full.rank(-1, than), than);
    }
  }

  private static void promise16() {
    Copperleaf store = twoTrees();
    noSuchViews("16: size", store::size);
    Checks.due("16: of the batch", store.size(-1), 5);
    store.put(60, 2);
    Checks.due("16: a new value counts nothing", store.size(-1), 5);
    store.put(61, 2);
    Checks.due("16: a new key counts", store.size(-1), 6);
    Checks.due("16: of the reader", store.size(0), 5);
    store.abandon();
    Checks.due("16: of the current state", store.size(-1), 5);
    Checks.due("16: of all keys", batchWith(upTo(100)).size(-1), 100);
    store.beginBatch();
    store.delete(50);
    store.commit();
    Checks.due("16: committed", store.size(-1), 4);
    Checks.due("16: not the reader's", store.size(0), 5);
    store.tear(0);
    store.crash();
    Checks.due("16: fallen back", store.size(-1), 5);
  }

  private static void promise17() {
    Copperleaf store = committedWith(10, 20, 30, 40);
    store.openReader();
    store.beginBatch();
    noSuchViews("17: depth", store::depth);
    Checks.due("17: a leaf", store.depth(-1), 1);
    store.put(50, 0);
    Checks.due("17: two levels", store.depth(-1), 2);
    Checks.due("17: of the reader", store.depth(0), 1);
    Copperleaf rising = batchWith(upTo(11));
    Checks.due("17: four leaves", rising.depth(-1), 2);
    putAll(rising, 11, 12, 13);
    Checks.due("17: five leaves", rising.depth(-1), 3);
    Copperleaf falling = new Copperleaf();
    falling.beginBatch();
    for (int key = 99; key >= 0; key--) {
      falling.put(key, key);
    }
    Checks.due("17: 100 keys from the greatest on", falling.depth(-1), 6);
  }

  private static void promise18() {
    Copperleaf store = committedWith(10, 20, 30, 40, 50);
    store.openReader();
    noSuchViews("18: root", store::rootOf);
    Checks.due("18: of the current state", store.rootOf(-1), 3);
    store.beginBatch();
    Checks.due("18: of a batch without changes", store.rootOf(-1), 3);
    store.put(60, 0);
    Checks.due("18: of the batch", store.rootOf(-1), 4);
    Checks.due("18: of the reader", store.rootOf(0), 3);
    Checks.due("18: at first", new Copperleaf().rootOf(-1), 0);
  }

  private static void promise19() {
    Copperleaf store = committedWith(10, 20, 30, 40, 50);
    store.openReader();
    store.beginBatch();
    noSuchViews("19: shared with the batch", view -> store.sharedPages(view, -1));
    noSuchViews("19: shared by the batch", view -> store.sharedPages(-1, view));
    noSuchViews("19: shared by none", view -> store.sharedPages(view, view));
    Checks.due("19: nothing is written", store.sharedPages(-1, 0), 3);
    store.put(40, 0);
    Checks.due("19: one leaf is shared", store.sharedPages(-1, 0), 1);
    Checks.due("19: the other way round", store.sharedPages(0, -1), 1);
    Checks.due("19: a view with itself", store.sharedPages(0, 0), 3);
    store.put(10, 0);
    Checks.due("19: all is written", store.sharedPages(0, -1), 0);
    putAll(store, 60, 70, 80);
    Checks.due("19: the batch with itself", store.sharedPages(-1, -1), 4);
    store.commit();
    store.openReader();
    Checks.due("19: two readers", store.sharedPages(0, 1), 0);
    Checks.due("19: a reader and the current state", store.sharedPages(1, -1), 4);
  }

  private static void promise20() {
    Copperleaf store = new Copperleaf();
    Checks.bounds("20: page -1", () -> store.isFree(-1));
    Checks.bounds("20: least page", () -> store.isFree(MIN));
    Checks.due("20: page 0", store.isFree(0), false);
    Checks.due("20: page 1", store.isFree(1), true);
    Checks.due("20: page 799", store.isFree(799), true);
    Checks.due("20: page 800", store.isFree(800), true);
    Checks.due("20: greatest page", store.isFree(MAX), true);
    store.beginBatch();
    store.put(1, 1);
    Checks.due("20: in the batch alone", store.isFree(1), false);
    store.commit();
    Checks.due("20: in a slot alone", store.isFree(0), false);
    commitPut(store, 2);
    Checks.due("20: in nothing", store.isFree(0), true);
    store.openReader();
    commitPut(store, 3);
    commitPut(store, 4);
    Checks.due("20: in a reader alone", store.isFree(2), false);
    store.tear(store.currentSlot());
    Checks.due("20: in the current state alone", store.isFree(store.rootOf(-1)), false);
    store.crash();
    Checks.due("20: in nothing any more", store.isFree(2), true);
  }

  private static void promise21() {
    Copperleaf store = new Copperleaf();
    Checks.due("21: at first", store.pagesInUse(), 1);
    store.beginBatch();
    Checks.due("21: a batch without changes", store.pagesInUse(), 1);
    putAll(store, 10, 20, 30, 40, 50);
    Checks.due("21: with those of the batch", store.pagesInUse(), 4);
    store.commit();
    Checks.due("21: with those of the other slot", store.pagesInUse(), 4);
    store.openReader();
    Checks.due("21: a reader of the current state", store.pagesInUse(), 4);
    commitPut(store, 40);
    Checks.due("21: page 0 is free", store.pagesInUse(), 5);
    commitPut(store, 40);
    Checks.due("21: with those of the reader", store.pagesInUse(), 7);
    store.closeReader(0);
    Checks.due("21: without", store.pagesInUse(), 5);
    store.tear(0);
    Checks.due("21: without those of a torn slot", store.pagesInUse(), 3);
  }

  private static void promise22() {
    Copperleaf store = new Copperleaf();
    Checks.due("22: at first", store.leastFree(), 1);
    store.beginBatch();
    putAll(store, 10, 20, 30, 40, 50);
    Checks.due("22: behind those of the batch", store.leastFree(), 4);
    store.commit();
    commitPut(store, 40);
    Checks.due("22: a gap", store.leastFree(), 0);
    store.beginBatch();
    store.put(40, 0);
    Checks.due("22: the root went to page 0, the leaf to 6", store.leastFree(), 7);
    dueTree("22: indeed", store, -1, "0(1(10 20 30) 6(40 50))");
    store.abandon();
    Checks.due("22: given up", store.leastFree(), 0);
  }

  private static void promise23() {
    Copperleaf store = batchWith(10, 20, 30, 40, 50);
    Checks.due("23: a leaf without entries", store.entries(0), 0);
    Checks.due("23: a leaf", store.entries(1), 3);
    Checks.due("23: another", store.entries(2), 2);
    Checks.due("23: an inner page", store.entries(3), 2);
    for (int page : new int[] {-1, 4, 799, 800, MIN, MAX}) {
      Checks.bounds("23: page " + page, () -> store.entries(page));
    }
    store.abandon();
    Checks.bounds("23: a page that became free", () -> store.entries(1));
  }

  private static void promise24() {
    Copperleaf store = batchWith(10, 20, 30, 40, 50);
    Checks.due("24: a leaf's first", store.keyAt(1, 0), 10);
    Checks.due("24: a leaf's last", store.keyAt(1, 2), 30);
    Checks.due("24: an inner page's first", store.keyAt(3, 0), 10);
    Checks.due("24: an inner page's last", store.keyAt(3, 1), 40);
    noSuchEntries("24: key", store::keyAt);
    store.put(5, 0);
    Checks.due("24: a new least key", store.keyAt(3, 0), 5);
    store.delete(5);
    store.delete(10);
    Checks.due("24: the least key is gone", store.keyAt(3, 0), 20);
    store.delete(40);
    store.put(35, 0);
    Checks.due("24: a key before the second leaf", store.keyAt(store.rootOf(-1), 0), 20);
    Copperleaf deep = descending();
    Checks.due("24: the least key two levels below", deep.keyAt(8, 2), 13);
    deep.put(0, 0);
    Checks.due("24: through all levels", deep.keyAt(deep.rootOf(-1), 0), 0);
    Checks.due("24: not in the state", deep.keyAt(8, 0), 1);
  }

  private static void noSuchEntries(String what, IntBinaryOperator call) {
    int[][] places = {
      {-1, 0}, {4, 0}, {MIN, 0}, {MAX, 0}, {800, 0}, {0, 0}, {1, -1}, {1, 3}, {1, 4}, {1, MIN},
      {1, MAX}, {2, 2}, {3, -1}, {3, 2}, {3, 5}, {-1, -1}
    };
    for (int[] place : places) {
      Checks.bounds(what + " at " + place[0] + ", " + place[1],
          () -> call.applyAsInt(place[0], place[1]));
    }
  }

  private static void promise25() {
    Copperleaf store = batchWith(10, 20, 30, 40, 50);
    Checks.due("25: a leaf", store.pageAt(1, 0), -1);
    Checks.due("25: a leaf's last", store.pageAt(1, 2), -1);
    Checks.due("25: an inner page's first", store.pageAt(3, 0), 1);
    Checks.due("25: an inner page's last", store.pageAt(3, 1), 2);
    noSuchEntries("25: page", store::pageAt);
    store.commit();
    commitPut(store, 10);
    Checks.due("25: a page that was written anew", store.pageAt(4, 0), 5);
    Checks.due("25: one that was not", store.pageAt(4, 1), 2);
    Checks.due("25: the old tree", store.pageAt(3, 0), 1);
  }

  private static void promise26() {
    Copperleaf store = new Copperleaf();
    Checks.due("26: at first", store.currentSlot(), 0);
    store.beginBatch();
    Checks.due("26: a batch", store.currentSlot(), 0);
    store.commit();
    Checks.due("26: one commit", store.currentSlot(), 1);
    commitPut(store, 1);
    Checks.due("26: two commits", store.currentSlot(), 0);
    store.tear(0);
    Checks.due("26: torn", store.currentSlot(), 0);
    store.crash();
    Checks.due("26: fallen back", store.currentSlot(), 1);
    store.beginBatch();
    store.abandon();
    Checks.due("26: a batch given up", store.currentSlot(), 1);
  }

  private static void promise27() {
    Copperleaf store = new Copperleaf();
    dueWords("27: slot 0 at first", store, 0, 0, 0, 0, 0);
    dueWords("27: slot 1 at first", store, 1, 0, 0, 0, 0);
    int[][] places = {
      {-1, 0}, {2, 0}, {0, -1}, {0, 4}, {1, -1}, {1, 4}, {MIN, 0}, {MAX, 0}, {0, MIN}, {0, MAX}
    };
    for (int[] place : places) {
      Checks.bounds("27: word at " + place[0] + ", " + place[1],
          () -> store.slotWord(place[0], place[1]));
    }
    commitPut(store, 1);
    store.beginBatch();
    store.put(2, 2);
    dueWords("27: a batch does not show", store, 1, 1, 1, 1, 1001013);
    store.commit();
    dueWords("27: the second commit", store, 0, 2, 2, 2, 2002026);
  }

  private static void promise28() {
    Copperleaf store = new Copperleaf();
    for (int slot : new int[] {-1, 2, MIN, MAX}) {
      Checks.bounds("28: slot " + slot, () -> store.isWhole(slot));
    }
    Checks.due("28: slot 0 at first", store.isWhole(0), true);
    Checks.due("28: slot 1 at first", store.isWhole(1), true);
    commitPut(store, 1);
    Checks.due("28: committed", store.isWhole(1), true);
    store.tear(0);
    Checks.due("28: torn", store.isWhole(0), false);
    Checks.due("28: not the other", store.isWhole(1), true);
    for (int words = 1; words <= 3; words++) {
      store.beginBatch();
      store.put(words, 0);
      store.crashInCommit(words);
      Checks.due("28: half written", store.isWhole(0), false);
    }
    commitPut(store, 2);
    Checks.due("28: written", store.isWhole(0), true);
  }

  private static void promise29() {
    Copperleaf store = new Copperleaf();
    for (int slot : new int[] {-1, 2, MIN, MAX}) {
      Checks.bounds("29: slot " + slot, () -> store.tear(slot));
    }
    Checks.due("29: both have the state", store.tear(1), 0);
    Checks.state("29: the other is torn", () -> store.tear(0));
    Checks.bounds("29: slot 2 and a torn one", () -> store.tear(2));
    Checks.due("29: torn again", store.tear(1), 0);
    dueWords("29: words", store, 1, 0, 0, 0, -1);
    commitPut(store, 1);
    Checks.due("29: page 0 becomes free", store.tear(0), 1);
    Checks.due("29: it is free", store.isFree(0), true);
    commitPut(store, 2);
    store.beginBatch();
    store.put(3, 3);
    int before = store.pagesInUse();
    Checks.due("29: the current slot", store.tear(0), 0);
    Checks.due("29: its sum", store.slotWord(0, 3), -1);
    Checks.due("29: its epoch stays", store.slotWord(0, 0), 2);
    Checks.due("29: pages in use", store.pagesInUse(), before);
    Checks.due("29: the batch stays", store.hasBatch(), true);
    store.abandon();
    Checks.due("29: the current state stays", store.size(-1), 2);
    Checks.due("29: and its epoch", store.epochOf(-1), 2);
    Copperleaf read = committedWith(10, 20, 30, 40, 50);
    read.openReader();
    commitPut(read, 40);
    Checks.due("29: a reader has the state", read.tear(1), 0);
    Checks.due("29: a leaf is in the current tree", read.closeReader(0), 2);
    read.beginBatch();
    read.crashInCommit(2);
    Checks.due("29: a slot torn in a commit", read.tear(1), 0);
    dueWords("29: keeps its other words", read, 1, 3, 4, 5, -1);
  }

  private static void promise30() {
    Copperleaf store = new Copperleaf();
    Checks.due("30: at first", store.crash(), 0);
    Checks.due("30: slot 0 if both have the epoch", store.currentSlot(), 0);
    commitPut(store, 1);
    store.openReader();
    store.beginBatch();
    putAll(store, 2, 3, 4, 5);
    Checks.due("30: the greatest epoch", store.crash(), 1);
    Checks.due("30: slot", store.currentSlot(), 1);
    Checks.due("30: the batch is gone", store.hasBatch(), false);
    Checks.bounds("30: the reader is gone", () -> store.size(0));
    Checks.due("30: their pages are free", free(store), "xx..................");
    Checks.due("30: the state", store.get(-1, 1), 10);
    commitPut(store, 2);
    Checks.due("30: slot 0 has the greater epoch", store.crash(), 2);
    Checks.due("30: slot", store.currentSlot(), 0);
    store.tear(1);
    Checks.due("30: the other slot is torn", store.crash(), 2);
    commitPut(store, 3);
    store.tear(1);
    Checks.due("30: the current slot is torn", store.crash(), 2);
    Checks.due("30: back to slot 0", store.currentSlot(), 0);
    dueTree("30: and its state", store, -1, "2(1 2)");
    Checks.due("30: of two keys", store.size(-1), 2);
    Checks.due("30: the other state's page is free", free(store), "..x.................");
    commitPut(store, 4);
    Checks.due("30: the next commit", store.epochOf(-1), 3);
    dueWords("30: goes to the torn slot", store, 1, 3, 0, 3, 3000012);
  }

  private static void promise31() {
    Copperleaf store = new Copperleaf();
    Checks.argument("31: words -1 without a batch", () -> store.crashInCommit(-1));
    Checks.argument("31: words 5 without a batch", () -> store.crashInCommit(5));
    for (int words = 0; words <= 4; words++) {
      int first = words;
      Checks.state("31: no batch, words " + words, () -> store.crashInCommit(first));
    }
    commitPut(store, 1);
    commitPut(store, 2);
    for (int words = 0; words <= 4; words++) {
      crashWithWords(words);
    }
    store.tear(0);
    store.beginBatch();
    for (int words = 1; words <= 3; words++) {
      int first = words;
      Checks.state("31: torn, words " + words, () -> store.crashInCommit(first));
    }
    for (int words : new int[] {-1, 5, MIN, MAX}) {
      Checks.argument("31: words " + words, () -> store.crashInCommit(words));
    }
    Checks.due("31: these change nothing", store.hasBatch(), true);
    Checks.due("31: torn, no words: it falls back", store.crashInCommit(0), 1);
    Checks.due("31: to slot 1", store.currentSlot(), 1);
    commitPut(store, 5);
    store.tear(0);
    store.beginBatch();
    store.put(6, 6);
    Checks.due("31: torn, all words: it is committed", store.crashInCommit(4), 3);
    Checks.due("31: to slot 1", store.currentSlot(), 1);
    Checks.due("31: with its keys", store.size(-1), 3);
  }

  private static void crashWithWords(int words) {
    String what = "31: " + words + " words";
    Copperleaf store = committedWith(1);
    commitPut(store, 2);
    dueWords(what + ", the slot before", store, 1, 1, 1, 1, 1001013);
    store.openReader();
    store.beginBatch();
    store.put(3, 3);
    boolean all = words == 4;
    Checks.due(what + ", epoch", store.crashInCommit(words), all ? 3 : 2);
    long[] old = {1, 1, 1, 1001013};
    long[] due = {3, 0, 3, 3000012};
    System.arraycopy(old, words, due, words, 4 - words);
    dueWords(what + ", the slot", store, 1, due);
    dueWords(what + ", the other slot", store, 0, 2, 2, 2, 2002026);
    Checks.due(what + ", whole", store.isWhole(1), words == 0 || all);
    Checks.due(what + ", current slot", store.currentSlot(), all ? 1 : 0);
    Checks.due(what + ", size", store.size(-1), all ? 3 : 2);
    Checks.due(what + ", batch", store.hasBatch(), false);
    Checks.due(what + ", readers", store.readers(), 0);
    String inUse = words == 0 ? ".xx" : all ? "x.x" : "..x";
    Checks.due(what + ", free pages", free(store), inUse + ".................");
  }

  private static void callsThatThrowChangeNothing() {
    Copperleaf store = committedWith(10, 20, 30, 40, 50);
    store.openReader();
    store.tear(1);
    String idle = look(store);
    Checks.state("put", () -> store.put(1, 1));
    Checks.state("delete", () -> store.delete(10));
    Checks.state("commit", store::commit);
    Checks.state("abandon", store::abandon);
    Checks.state("crashInCommit", () -> store.crashInCommit(4));
    Checks.state("tear", () -> store.tear(0));
    Checks.bounds("tear", () -> store.tear(2));
    Checks.bounds("closeReader", () -> store.closeReader(1));
    Checks.due("after calls that throw", look(store), idle);
  }

  private static void callsThatThrowInABatchChangeNothing() {
    Copperleaf store = committedWith(10, 20, 30, 40, 50);
    store.openReader();
    store.tear(1);
    store.beginBatch();
    store.openReader();
    store.openReader();
    store.openReader();
    store.put(60, 1);
    String busy = look(store);
    Checks.state("beginBatch", store::beginBatch);
    Checks.argument("put", () -> store.put(100, 1));
    Checks.missing("delete", () -> store.delete(15));
    Checks.argument("delete", () -> store.delete(-1));
    Checks.state("openReader", store::openReader);
    Checks.state("crashInCommit", () -> store.crashInCommit(2));
    Checks.argument("crashInCommit", () -> store.crashInCommit(5));
    Checks.bounds("heldBy", () -> store.heldBy(4));
    Checks.due("after calls that throw in a batch", look(store), busy);
  }
}
