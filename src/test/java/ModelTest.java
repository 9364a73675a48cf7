import java.util.NoSuchElementException;

/** Long runs of calls, at most 512 for an object, answered by the class and by the model alike. */
public final class ModelTest {
  private static final int RUNS = 1500;
  private static final int CALLS = 512;
  private static final String[] CHANGES = {
    "beginBatch", "commit", "abandon", "openReader", "closeReader", "tear", "crash", "crashInCommit"
  };
  private static final String[] QUESTIONS = {
    "hasBatch", "readers", "heldBy", "epochOf", "get", "next", "rank", "size", "depth", "rootOf",
    "sharedPages", "isFree", "pagesInUse", "leastFree", "entries", "keyAt", "pageAt", "currentSlot",
    "slotWord", "isWhole"
  };

  private long seed;
  private Copperleaf store;
  private Model model;
  private int style;
  private int walk;

  private ModelTest(int run) {
    seed = run * 7919L + 1;
    store = new Copperleaf();
    model = new Model();
    style = run % 6;
  }

  public static void main(String[] args) {
    for (int run = 0; run < RUNS; run++) {
      new ModelTest(run).play(run);
    }
    new ModelTest(RUNS).fill();
    Checks.close();
  }

  private void play(int run) {
    boolean same = true;
    for (int call = 0; call < CALLS && same; call++) {
      String name = nextName();
      int a = firstArgument(name);
      same = call("run " + run + ", call " + call, name, a, secondArgument(name, a));
    }
  }

  private boolean call(String where, String name, int a, int b) {
    String due = answerOfModel(name, a, b);
    String got = answerOfStore(name, a, b);
    Checks.due(where + ", " + name + "(" + a + ", " + b + ")", got, due);
    return got.equals(due);
  }

  /** The most pages that calls can fill: large trees, one for each reader, that share nothing. */
  private void fill() {
    call("fill", "beginBatch", 0, 0);
    for (int key = 99; key >= 0; key--) {
      call("fill", "put", key, key);
    }
    for (int tree = 0; tree < 7; tree++) {
      call("fill", "commit", 0, 0);
      call("fill", tree < 4 ? "openReader" : "readers", 0, 0);
      call("fill", "beginBatch", 0, 0);
      for (int key = 0; key < 100; key += 2) {
        call("fill", "put", key, key + tree);
      }
    }
    call("fill", "pagesInUse", 0, 0);
    call("fill", "leastFree", 0, 0);
    for (int view = -1; view < 4; view++) {
      call("fill", "sharedPages", view, -1);
      call("fill", "rank", view, 99);
      call("fill", "get", view, 50);
    }
    for (int reader = 0; reader < 4; reader++) {
      call("fill", "closeReader", reader, 0);
    }
    call("fill", "crash", 0, 0);
    call("fill", "pagesInUse", 0, 0);
  }

  /** The high bits of a linear congruence, so that the runs are the same on every machine. */
  private int below(int bound) {
    seed = seed * 6364136223846793005L + 1442695040888963407L;
    return (int) ((seed >>> 33) % bound);
  }

  private String nextName() {
    if (!model.hasBatch() && below(3) > 0) {
      return "beginBatch";
    }
    int dice = below(100);
    if (dice < 55) {
      return below(100) < deletesInHundred() ? "delete" : "put";
    }
    if (dice < 62) {
      return "commit";
    }
    if (dice < 69) {
      return rareChange();
    }
    return QUESTIONS[below(QUESTIONS.length)];
  }

  private String rareChange() {
    String name = CHANGES[below(CHANGES.length)];
    boolean fatal = name.startsWith("crash") || name.equals("abandon");
    return fatal && style < 4 && below(3) > 0 ? "openReader" : name;
  }

  private int deletesInHundred() {
    int keys = model.size(-1);
    return style == 5 ? 50 : keys > 60 ? 70 : keys < 8 ? 15 : 40;
  }

  private int firstArgument(String name) {
    switch (name) {
      case "put":
        return keyToPut();
      case "delete":
        return keyToDelete();
      case "isFree":
      case "entries":
      case "keyAt":
      case "pageAt":
        return below(30) == 0 ? -1 - below(3) : below(model.pagesInUse() + 4);
      case "slotWord":
      case "isWhole":
      case "tear":
        return below(8) == 0 ? below(5) - 2 : below(2);
      case "crashInCommit":
        return below(7) - 1;
      case "closeReader":
      case "heldBy":
        return below(6) - 1;
      default:
        return below(3) == 0 ? -1 : below(7) - 2;
    }
  }

  private int secondArgument(String name, int first) {
    switch (name) {
      case "put":
        return below(1000) - 500;
      case "sharedPages":
        return below(4) == 0 ? -1 : below(7) - 2;
      case "keyAt":
      case "pageAt":
        return below(7) - 1;
      case "slotWord":
        return below(8) == 0 ? below(7) - 2 : below(4);
      case "next":
      case "rank":
        return below(12) == 0 ? farNumber() : below(110) - 5;
      default:
        return below(30) == 0 ? below(110) - 5 : below(100);
    }
  }

  private int farNumber() {
    return below(2) == 0 ? Integer.MIN_VALUE : Integer.MAX_VALUE;
  }

  /** Keys in order, in reverse or in strides split and join pages in ways of their own. */
  private int keyToPut() {
    if (below(40) == 0) {
      return below(2) == 0 ? -1 - below(3) : 100 + below(3);
    }
    walk++;
    switch (style) {
      case 0:
        return walk % 100;
      case 1:
        return 99 - walk % 100;
      case 2:
        return walk * 37 % 100;
      default:
        return below(100);
    }
  }

  private int keyToDelete() {
    int key = model.next(-1, below(100));
    return below(12) == 0 || key < 0 ? below(102) - 1 : key;
  }

  private String answerOfStore(String name, int a, int b) {
    try {
      switch (name) {
        case "beginBatch": return "" + store.beginBatch();
        case "hasBatch": return "" + store.hasBatch();
        case "put": return "" + store.put(a, b);
        case "delete": return "" + store.delete(a);
        case "commit": return "" + store.commit();
        case "abandon": return "" + store.abandon();
        case "openReader": return "" + store.openReader();
        case "closeReader": return "" + store.closeReader(a);
        case "readers": return "" + store.readers();
        case "heldBy": return "" + store.heldBy(a);
        case "epochOf": return "" + store.epochOf(a);
        case "get": return "" + store.get(a, b);
        case "next": return "" + store.next(a, b);
        case "rank": return "" + store.rank(a, b);
        case "size": return "" + store.size(a);
        case "depth": return "" + store.depth(a);
        case "rootOf": return "" + store.rootOf(a);
        case "sharedPages": return "" + store.sharedPages(a, b);
        case "isFree": return "" + store.isFree(a);
        case "pagesInUse": return "" + store.pagesInUse();
        case "leastFree": return "" + store.leastFree();
        case "entries": return "" + store.entries(a);
        case "keyAt": return "" + store.keyAt(a, b);
        case "pageAt": return "" + store.pageAt(a, b);
        case "currentSlot": return "" + store.currentSlot();
        case "slotWord": return "" + store.slotWord(a, b);
        case "isWhole": return "" + store.isWhole(a);
        case "tear": return "" + store.tear(a);
        case "crash": return "" + store.crash();
        case "crashInCommit": return "" + store.crashInCommit(a);
        default: throw new AssertionError(name);
      }
    } catch (RuntimeException e) {
      return e.getClass().getName();
    }
  }

  private String answerOfModel(String name, int a, int b) {
    try {
      switch (name) {
        case "beginBatch": return "" + model.beginBatch();
        case "hasBatch": return "" + model.hasBatch();
        case "put": return "" + model.put(a, b);
        case "delete": return "" + model.delete(a);
        case "commit": return "" + model.commit();
        case "abandon": return "" + model.abandon();
        case "openReader": return "" + model.openReader();
        case "closeReader": return "" + model.closeReader(a);
        case "readers": return "" + model.readers();
        case "heldBy": return "" + model.heldBy(a);
        case "epochOf": return "" + model.epochOf(a);
        case "get": return "" + model.get(a, b);
        case "next": return "" + model.next(a, b);
        case "rank": return "" + model.rank(a, b);
        case "size": return "" + model.size(a);
        case "depth": return "" + model.depth(a);
        case "rootOf": return "" + model.rootOf(a);
        case "sharedPages": return "" + model.sharedPages(a, b);
        case "isFree": return "" + model.isFree(a);
        case "pagesInUse": return "" + model.pagesInUse();
        case "leastFree": return "" + model.leastFree();
        case "entries": return "" + model.entries(a);
        case "keyAt": return "" + model.keyAt(a, b);
        case "pageAt": return "" + model.pageAt(a, b);
        case "currentSlot": return "" + model.currentSlot();
        case "slotWord": return "" + model.slotWord(a, b);
        case "isWhole": return "" + model.isWhole(a);
        case "tear": return "" + model.tear(a);
        case "crash": return "" + model.crash();
        case "crashInCommit": return "" + model.crashInCommit(a);
        default: throw new AssertionError(name);
      }
    } catch (RuntimeException e) {
      return e.getClass().getName();
    }
  }
}
