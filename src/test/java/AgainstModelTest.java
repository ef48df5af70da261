/**
 * Runs of at most 512 calls, the same on TreeheadGallery and on the model: each answer is compared,
 * and so is all that can be asked after a call that throws and at the end of a run.
 */
public final class AgainstModelTest {
  private static final int RUNS = 1500;
  private static final int CALLS = Calls.MOST;
  private static final int CALLS_OF_A_LOOK = 60;

  /** Each method of the face that changes or tests something, with the kinds of its arguments. */
  private static final String[] CALLABLE = {
    "append view value", "append view value", "append view value", "appendRow view value many",
    "appendRow view value many", "fork view size", "views", "size view", "leaf view leaf",
    "root view size", "rootAnew view size", "loadLeaf view leaf size", "loadGrowth view size size",
    "loadKey key", "change place sum", "change place sum", "shorten", "sums", "sumAt place",
    "testLeaf view value leaf size", "testGrowth view size view size", "testKey key keyValue",
    "put key value", "put key value", "remove key", "get key", "mapRoot", "show watcher view",
    "show watcher view", "gossip watcher watcher", "follow watcher value", "isAlarmed watcher",
    "keptSize watcher", "keptRoot watcher", "counted watcher"
  };

  private final Check check;
  private final int run;
  private final TreeheadGallery gallery = new TreeheadGallery();
  private final Model model = new Model();
  private final int wrongIn1000;
  private long state;
  private int calls;

  private AgainstModelTest(Check check, int run) {
    this.check = check;
    this.run = run;
    this.state = 0x9E3779B97F4A7C15L * (run + 1);
    this.wrongIn1000 = new int[] {0, 20, 150}[run % 3];
  }

  public static void main(String[] args) {
    Check check = new Check("against the model");
    for (int run = 0; run < RUNS; run++) {
      new AgainstModelTest(check, run).go();
    }
    boolean holds = check.holds();
    System.out.println(holds ? "1 passed, 0 failed" : "0 passed, 1 failed");
    if (!holds) {
      System.exit(1);
    }
  }

  private void go() {
    int start = next(4);
    for (int i = 0; i < start; i++) {
      both("appendRow", 0, next(50), 1 + next(30));
    }
    while (calls < CALLS - CALLS_OF_A_LOOK - 8) {
      step();
    }
    look();
  }

  private void step() {
    int kind = next(10);
    if (kind == 0) {
      proveLeaf();
    } else if (kind == 1) {
      proveGrowth();
    } else if (kind == 2) {
      proveKey();
    } else {
      anyCall();
    }
  }

  private void anyCall() {
    String[] words = CALLABLE[next(CALLABLE.length)].split(" ");
    int[] arguments = new int[words.length - 1];
    int view = next(model.views());
    for (int i = 0; i < arguments.length; i++) {
      arguments[i] = next(1000) < wrongIn1000 ? edge() : argument(words[i + 1], view);
    }
    String answer = both(words[0], arguments);
    if (answer.startsWith("throws.") && calls + 2 * CALLS_OF_A_LOOK < CALLS && next(8) == 0) {
      look();
    }
  }

  private int edge() {
    int[] edges = {
      -1, 0, 1, 2, 3, 4, 5, 6, 7, 11, 12, 13, 40, 41, 63, 64, 99, 100, 101, 65535, 65536, 1000002,
      1000003, -2, Integer.MIN_VALUE, Integer.MAX_VALUE
    };
    return edges[next(edges.length)];
  }

  private int argument(String kind, int view) {
    int leaves = model.size(view);
    switch (kind) {
      case "view":
        return next(4) == 0 ? next(model.views()) : view;
      case "value":
        return next(3) == 0 ? next(65536) : next(6);
      case "keyValue":
        return next(3) - 1;
      case "many":
        return 1 + next(12);
      case "size":
        return next(leaves + 1);
      case "leaf":
        return leaves == 0 ? 0 : next(leaves);
      case "key":
        return next(2) == 0 ? next(8) : next(64);
      case "place":
        return next(model.sums() + 1);
      case "sum":
        return next(Model.MODULUS);
      case "watcher":
        return next(4);
      default:
        throw new IllegalArgumentException(kind);
    }
  }

  /** Loads a proof and tests it as it is, or spoiled a little, or against other numbers. */
  private void proveLeaf() {
    int view = next(model.views());
    int size = model.size(view);
    if (size == 0) {
      return;
    }
    size = 1 + next(size);
    int leaf = next(size);
    both("loadLeaf", view, leaf, size);
    spoil();
    int value = model.leaf(view, leaf) ^ (next(6) == 0 ? 1 : 0);
    int tested = next(4) == 0 ? next(model.views()) : view;
    int near = next(6) == 0 ? Math.min(size + 1, model.size(view)) : size;
    both("testLeaf", tested, value, next(6) == 0 ? next(size) : leaf, near);
  }

  private void proveGrowth() {
    int view = next(model.views());
    int size = model.size(view);
    if (size == 0) {
      return;
    }
    size = 1 + next(size);
    int from = 1 + next(size);
    both("loadGrowth", view, from, size);
    spoil();
    int old = next(2) == 0 ? next(model.views()) : view;
    int tested = next(4) == 0 ? next(model.views()) : view;
    both("testGrowth", old, next(6) == 0 ? 1 + next(size) : from, tested, size);
  }

  private void proveKey() {
    int key = next(2) == 0 ? next(8) : next(64);
    both("loadKey", key);
    spoil();
    if (next(6) == 0) {
      both("put", next(8), next(3));
    }
    int value = model.get(key);
    both("testKey", next(6) == 0 ? key ^ 1 : key, next(6) == 0 ? next(3) - 1 : value);
  }

  private void spoil() {
    int way = next(9);
    if (way == 0) {
      both("shorten");
    } else if (way == 1) {
      both("change", model.sums(), next(2) == 0 ? 0 : next(Model.MODULUS));
    } else if (way == 2 && model.sums() > 0) {
      both("change", next(model.sums()), next(2) == 0 ? 0 : next(Model.MODULUS));
    }
  }

  /** Compares much of what can be asked, by at most CALLS_OF_A_LOOK calls. */
  private void look() {
    both("views");
    both("sums");
    both("mapRoot");
    for (int view = 0; view < model.views(); view++) {
      both("size", view);
      both("root", view, model.size(view));
      both("rootAnew", view, model.size(view));
    }
    for (int watcher = 0; watcher < 4; watcher++) {
      both("isAlarmed", watcher);
      both("keptSize", watcher);
      both("keptRoot", watcher);
      both("counted", watcher);
    }
    for (int place = 0; place <= model.sums(); place++) {
      both("sumAt", place);
    }
    for (int key = 0; key < 8; key++) {
      both("get", key);
    }
  }

  private String both(String name, int... arguments) {
    calls++;
    String want = Calls.answer(model, name, arguments);
    String got = Calls.answer(gallery, name, arguments);
    check.same("run " + run + ", call " + calls + ", " + Calls.told(name, arguments), want, got);
    return want;
  }

  /** A row of numbers that is the same for each run anew (no random source). */
  private int next(int bound) {
    state = state * 6364136223846793005L + 1442695040888963407L;
    return (int) ((state >>> 33) % bound);
  }
}
