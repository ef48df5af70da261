/** The sentences on views and roots that name a boundary, and promises 1 to 9. */
public final class EdgesOfViewsTest {
  private static final Edges EDGES = new Edges("edges of views");

  public static void main(String[] args) {
    viewsOfTerms();
    sumsOfTerms();
    rootsOfTerms();
    newObject();
    append();
    appendRow();
    appendRowFull();
    fork();
    forkedLeaves();
    views();
    size();
    leaf();
    roots("root");
    roots("rootAnew");
    EDGES.end();
  }

  private static void viewsOfTerms() {
    EDGES.says("terms: there are 1 to 3 views, numbered from 0", r -> r
        .due(1, "views()").due(0, "size(0)").out("size(-1)", "size(1)", "size(2)", "size(3)")
        .due(1, "fork(0, 0)").due(2, "views()").due(0, "size(1)").out("size(2)", "size(3)")
        .due(2, "fork(0, 0)").due(3, "views()").due(0, "size(2)").out("size(3)")
        .state("fork(0, 0)").due(3, "views()").out("size(3)"));
    EDGES.says("terms: at first there is view 0, without leaves", r -> r
        .due(1, "views()").due(0, "size(0)", "root(0, 0)").out("leaf(0, 0)").bad("root(0, 1)"));
    EDGES.says("terms: a view has at most 100 leaves, numbered from 0", r -> r
        .leaves(0, 0, 99).out("leaf(0, 99)", "leaf(0, -1)").due(0, "leaf(0, 0)")
        .due(99, "append(0, 99)").due(99, "leaf(0, 99)").out("leaf(0, 100)")
        .state("append(0, 100)", "appendRow(0, 0, 1)").due(100, "size(0)").out("leaf(0, 100)"));
    EDGES.says("terms: each view has 100 leaves of its own", r -> r
        .leaves(0, 0, 100).due(1, "fork(0, 0)").leaves(1, 500, 100).due(2, "fork(1, 99)")
        .due(99, "append(2, 7)").state("append(0, 1)", "append(1, 1)", "append(2, 1)")
        .due(100, "size(0)", "size(1)", "size(2)")
        .due(99, "leaf(0, 99)").due(599, "leaf(1, 99)").due(7, "leaf(2, 99)"));
    EDGES.says("terms: values 0 to 65535", r -> r
        .bad("append(0, -1)").due(0, "append(0, 0)").due(1, "append(0, 65535)")
        .bad("append(0, 65536)").due(0, "leaf(0, 0)").due(65535, "leaf(0, 1)"));
    EDGES.says("the constants: NONE = -1", r -> r
        .due(TreeheadGallery.NONE, "get(0)", "keptSize(0)", "keptRoot(0)", "remove(0)")
        .due(-1, "put(0, 5)"));
    EDGES.says("an object is used for at most 512 calls", EdgesOfViewsTest::all512);
  }

  /** Fills all there is to fill, and the 512th call still answers right. */
  private static void all512(Run r) {
    r.due(1, "fork(0, 0)").due(2, "fork(0, 0)");
    for (int view = 0; view < 3; view++) {
      for (int leaf = 0; leaf < 100; leaf++) {
        r.due(leaf, Calls.told("append", view, 10 + leaf));
      }
    }
    for (int key = 0; key < 64; key++) {
      r.due(-1, Calls.told("put", key, key));
    }
    for (int place = 0; place < 12; place++) {
      r.due(place + 1, Calls.told("change", place, place));
    }
    for (int watcher = 0; watcher < 4; watcher++) {
      r.yes(Calls.told("show", watcher, watcher % 3));
    }
    while (r.calls() < Calls.MOST - 4) {
      r.yes("gossip(0, 1)");
    }
    r.due(784729, "root(2, 100)").due(784729, "rootAnew(1, 100)").due(394928, "mapRoot()");
    r.due(784729, "keptRoot(3)");
  }

  private static void sumsOfTerms() {
    EDGES.says("terms: the sum of a leaf: the remainder by 1000003 of 40503 * v + 12345", r -> r
        .due(0, "append(0, 0)").due(12345, "root(0, 1)")
        .due(1, "fork(0, 0)").due(0, "append(1, 24)").due(984417, "root(1, 1)")
        .due(2, "fork(0, 0)").due(0, "append(2, 25)").due(24917, "root(2, 1)"));
    EDGES.says("terms: the greatest value's sum", r -> r
        .due(0, "append(0, 65535)").due(368488, "root(0, 1)", "rootAnew(0, 1)"));
    EDGES.says("terms: a leaf's sum on both sides of the greatest int", r -> r
        .due(0, "append(0, 53020)").due(474964, "root(0, 1)", "rootAnew(0, 1)")
        .due(1, "fork(0, 0)")
        .due(0, "append(1, 53021)").due(515467, "root(1, 1)", "rootAnew(1, 1)"));
    EDGES.says("terms: the mix of two sums, in this order", r -> r
        .due(2, "appendRow(0, 10, 2)").due(662563, "root(0, 2)", "rootAnew(0, 2)")
        .due(1, "fork(0, 0)").due(0, "append(1, 11)").due(1, "append(1, 10)")
        .due(Model.mix(Model.leafSum(11), Model.leafSum(10)), "root(1, 2)", "rootAnew(1, 2)"));
    EDGES.says("terms: reckoned without an upper bound", r -> r
        .due(0, "append(0, 18986)").due(999999, "root(0, 1)")
        .due(1, "append(0, 18986)").due(842990, "root(0, 2)", "rootAnew(0, 2)")
        .due(1, "fork(0, 0)").due(0, "append(1, 51996)").due(15, "root(1, 1)")
        .due(1, "append(1, 18986)").due(993451, "root(1, 2)", "rootAnew(1, 2)"));
    EDGES.says("terms: sums are numbers from 0 to 1000002", r -> r
        .due(0, "append(0, 19)").due(1, "append(0, 24429)").due(0, "root(0, 2)", "rootAnew(0, 2)")
        .due(2, "append(0, 19)").due(3, "append(0, 24429)")
        .due(11, "root(0, 4)", "rootAnew(0, 4)")
        .due(1, "fork(0, 0)").due(0, "append(1, 4)").due(1, "append(1, 44777)")
        .due(1000002, "root(1, 2)", "rootAnew(1, 2)")
        .due(2, "append(1, 4)").due(3, "append(1, 44777)")
        .due(960758, "root(1, 4)", "rootAnew(1, 4)"));
  }

  private static void rootsOfTerms() {
    EDGES.says("terms: the root of a row of leaves is 0 if there are none", r -> r
        .due(0, "root(0, 0)", "rootAnew(0, 0)").leaves(0, 10, 3)
        .due(0, "root(0, 0)", "rootAnew(0, 0)"));
    EDGES.says("terms: the sum of the leaf if there is one", r -> r
        .due(0, "append(0, 10)").due(417375, "root(0, 1)", "rootAnew(0, 1)")
        .due(1, "append(0, 11)").due(417375, "root(0, 1)", "rootAnew(0, 1)"));
    // The number of leaves, and the greatest power of two below it.
    int[][] splits = {
      {2, 1}, {3, 2}, {4, 2}, {5, 4}, {6, 4}, {7, 4}, {8, 4}, {9, 8}, {15, 8}, {16, 8}, {17, 16},
      {31, 16}, {32, 16}, {33, 32}, {63, 32}, {64, 32}, {65, 64}, {66, 64}, {99, 64}, {100, 64}
    };
    for (int[] split : splits) {
      int n = split[0];
      int k = split[1];
      int due = Model.mix(Rows.root(10, k), Rows.root(10 + k, n - k));
      EDGES.says("terms: k is the greatest power of two below n, here " + k + " below " + n, r -> r
          .leaves(0, 10, n).due(due, "root(0, " + n + ")", "rootAnew(0, " + n + ")")
          .due(1, "fork(0, 0)").leaves(1, 10 + k, n - k)
          .due(Rows.root(10, k), "root(0, " + k + ")")
          .due(Rows.root(10 + k, n - k), "root(1, " + (n - k) + ")"));
    }
    EDGES.says("terms: the root of a view at a size n is that of its first n leaves", r -> r
        .leaves(0, 10, 4).due(539213, "root(0, 3)").due(567337, "root(0, 4)")
        .due(4, "append(0, 900)").due(539213, "root(0, 3)").due(567337, "root(0, 4)")
        .due(1, "fork(0, 4)").due(4, "append(1, 14)").due(567337, "root(1, 4)")
        .due(924189, "root(1, 5)")
        .due(Model.mix(567337, Model.leafSum(900)), "root(0, 5)", "rootAnew(0, 5)"));
  }

  private static void newObject() {
    EDGES.says("promise 1: one view without leaves", r -> r
        .due(1, "views()").due(0, "size(0)").out("leaf(0, 0)", "size(1)").due(0, "root(0, 0)"));
    EDGES.says("promise 1: an empty map", r -> {
      r.due(0, "mapRoot()").due(-1, "get(0)", "get(31)", "get(32)", "get(63)");
      r.bad("get(64)", "get(-1)");
    });
    EDGES.says("promise 1: four calm watchers", r -> {
      for (int watcher = 0; watcher < 4; watcher++) {
        r.no("isAlarmed(" + watcher + ")").keeps(watcher, -1, -1);
        r.due(0, "counted(" + watcher + ")");
      }
      r.out("isAlarmed(4)", "isAlarmed(-1)");
    });
    EDGES.says("promise 1, terms: the desk has a proof, empty at first", r -> r
        .due(0, "sums()").out("sumAt(0)").state("shorten()").due(0, "sums()"));
  }

  private static void append() {
    EDGES.says("promise 2: IndexOutOfBoundsException if there is no such view", r -> r
        .out("append(-1, 0)", "append(1, 0)", "append(LOW, 0)", "append(HIGH, 0)")
        .due(0, "append(0, 0)").due(1, "fork(0, 1)").due(1, "append(1, 1)")
        .out("append(2, 0)", "append(-1, 0)").due(2, "fork(0, 1)").due(1, "append(2, 2)")
        .out("append(3, 0)", "append(-1, 0)").due(1, "size(0)").due(2, "size(1)", "size(2)"));
    EDGES.says("promise 2: value: 0 to 65535", r -> r
        .bad("append(0, LOW)", "append(0, -65536)", "append(0, -1)").due(0, "size(0)")
        .due(0, "append(0, 0)").due(1, "append(0, 1)").due(2, "append(0, 65534)")
        .due(3, "append(0, 65535)").bad("append(0, 65536)", "append(0, 65537)", "append(0, HIGH)")
        .due(4, "size(0)").due(0, "leaf(0, 0)").due(1, "leaf(0, 1)").due(65534, "leaf(0, 2)")
        .due(65535, "leaf(0, 3)").out("leaf(0, 4)"));
    EDGES.says("promise 2: returns the number of the leaf", r -> r
        .due(0, "append(0, 7)").due(1, "append(0, 7)").leaves(0, 0, 39).due(41, "append(0, 7)")
        .due(1, "fork(0, 0)").due(0, "append(1, 9)")
        .due(2, "fork(0, 5)").due(5, "append(2, 9)"));
    EDGES.says("promise 2: IllegalStateException if the view has 100 leaves", r -> r
        .leaves(0, 0, 98).due(98, "append(0, 5)").due(99, "append(0, 6)").state("append(0, 7)")
        .due(100, "size(0)").due(6, "leaf(0, 99)").out("leaf(0, 100)")
        .due(1, "fork(0, 99)").due(99, "append(1, 8)").state("append(1, 9)")
        .due(8, "leaf(1, 99)"));
    EDGES.says("promise 2: what the throws clause names first", r -> r
        .leaves(0, 0, 100).out("append(1, -1)", "append(-1, 65536)", "append(1, 0)")
        .bad("append(0, -1)", "append(0, 65536)").state("append(0, 0)", "append(0, 65535)")
        .due(100, "size(0)"));
  }

  private static void appendRow() {
    EDGES.says("promise 3: IndexOutOfBoundsException if there is no such view", r -> r
        .out("appendRow(-1, 0, 1)", "appendRow(1, 0, 1)", "appendRow(LOW, 0, 1)")
        .out("appendRow(HIGH, 0, 1)").due(1, "appendRow(0, 0, 1)").due(1, "fork(0, 0)")
        .due(2, "appendRow(1, 0, 2)").out("appendRow(2, 0, 1)").due(2, "fork(0, 0)")
        .due(3, "appendRow(2, 0, 3)").out("appendRow(3, 0, 1)", "appendRow(-1, 0, 1)")
        .due(1, "size(0)").due(2, "size(1)").due(3, "size(2)"));
    EDGES.says("promise 3: first: 0 to 65535", r -> r
        .bad("appendRow(0, -1, 1)", "appendRow(0, LOW, 1)").due(1, "appendRow(0, 0, 1)")
        .due(2, "appendRow(0, 1, 1)").due(3, "appendRow(0, 65534, 1)")
        .due(4, "appendRow(0, 65535, 1)").bad("appendRow(0, 65536, 1)", "appendRow(0, HIGH, 1)")
        .bad("appendRow(0, -1, 2)", "appendRow(0, -39, 40)").due(4, "size(0)"));
    EDGES.says("promise 3: many: 1 to 40", r -> r
        .bad("appendRow(0, 5, 0)", "appendRow(0, 5, -1)", "appendRow(0, 5, LOW)").due(0, "size(0)")
        .due(1, "appendRow(0, 5, 1)").due(3, "appendRow(0, 5, 2)").due(42, "appendRow(0, 5, 39)")
        .due(82, "appendRow(0, 5, 40)").bad("appendRow(0, 5, 41)", "appendRow(0, 5, HIGH)")
        .due(82, "size(0)"));
    EDGES.says("promise 3: first + many - 1 is at most 65535", r -> r
        .due(40, "appendRow(0, 65495, 40)").due(65534, "leaf(0, 39)")
        .due(80, "appendRow(0, 65496, 40)").due(65535, "leaf(0, 79)")
        .bad("appendRow(0, 65497, 40)", "appendRow(0, 65535, 2)", "appendRow(0, 65534, 3)")
        .due(82, "appendRow(0, 65534, 2)").due(65535, "leaf(0, 81)")
        .bad("appendRow(0, 65535, 40)").due(82, "size(0)"));
    EDGES.says("promise 3: first + many - 1 does not wrap around", r -> r
        .bad("appendRow(0, HIGH, 2)", "appendRow(0, HIGH, 40)", "appendRow(0, 1, HIGH)")
        .bad("appendRow(0, 2, HIGH)", "appendRow(0, HIGH, HIGH)", "appendRow(0, LOW, LOW)")
        .bad("appendRow(0, LOW, HIGH)", "appendRow(0, HIGH, LOW)", "appendRow(0, 65535, LOW)")
        .bad("appendRow(0, 65536, 0)", "appendRow(0, 65537, -1)").due(0, "size(0)"));
    EDGES.says("promise 3: appends the values first, first + 1 and so on", r -> r
        .due(0, "append(0, 9)").due(4, "appendRow(0, 0, 3)").due(5, "appendRow(0, 65535, 1)")
        .due(9, "leaf(0, 0)").due(0, "leaf(0, 1)").due(1, "leaf(0, 2)").due(2, "leaf(0, 3)")
        .due(65535, "leaf(0, 4)").out("leaf(0, 5)")
        .due(Rows.rootOf(9, 0, 1, 2, 65535), "root(0, 5)", "rootAnew(0, 5)"));
  }

  private static void appendRowFull() {
    EDGES.says("promise 3: returns how many leaves the view has then", r -> r
        .due(40, "appendRow(0, 0, 40)").due(80, "appendRow(0, 0, 40)").due(1, "fork(0, 3)")
        .due(4, "appendRow(1, 0, 1)").due(99, "appendRow(0, 0, 19)").due(100, "appendRow(0, 0, 1)")
        .due(100, "size(0)").due(4, "size(1)"));
    EDGES.says("promise 3: IllegalStateException if it would have more than 100 leaves", r -> r
        .leaves(0, 0, 60).due(1, "fork(0, 60)").due(99, "appendRow(1, 0, 39)")
        .due(2, "fork(1, 61)").state("appendRow(2, 900, 40)").due(61, "size(2)")
        .out("leaf(2, 61)").due(Rows.rootOf(0, 1, 2), "root(2, 3)")
        .due(100, "appendRow(2, 900, 39)").due(938, "leaf(2, 99)")
        .due(100, "appendRow(0, 700, 40)").due(739, "leaf(0, 99)")
        .state("appendRow(1, 5, 2)", "appendRow(1, 5, 40)").due(99, "size(1)").out("leaf(1, 99)")
        .due(100, "appendRow(1, 5, 1)").state("appendRow(0, 5, 1)", "appendRow(1, 5, 1)")
        .due(100, "size(0)", "size(1)", "size(2)"));
    EDGES.says("promise 3: what the throws clause names first", r -> r
        .leaves(0, 0, 100).out("appendRow(1, -1, 0)", "appendRow(-1, 0, 41)", "appendRow(1, 0, 1)")
        .bad("appendRow(0, -1, 1)", "appendRow(0, 65536, 1)", "appendRow(0, 0, 0)")
        .bad("appendRow(0, 0, 41)", "appendRow(0, 65535, 2)").state("appendRow(0, 65535, 1)"));
  }

  private static void fork() {
    EDGES.says("promise 4: IndexOutOfBoundsException if there is no such view", r -> r
        .out("fork(-1, 0)", "fork(1, 0)", "fork(LOW, 0)", "fork(HIGH, 0)").due(1, "views()")
        .due(1, "fork(0, 0)").out("fork(2, 0)", "fork(-1, 0)").due(2, "views()")
        .due(2, "fork(1, 0)").out("fork(3, 0)").due(3, "views()"));
    EDGES.says("promise 4: size: 0 to the size of the view", r -> r
        .leaves(0, 10, 5).bad("fork(0, -1)", "fork(0, LOW)", "fork(0, 6)", "fork(0, HIGH)")
        .due(1, "views()").due(1, "fork(0, 5)").due(5, "size(1)").bad("fork(1, 6)")
        .due(2, "fork(0, 0)").due(0, "size(2)").out("leaf(2, 0)"));
    EDGES.says("promise 4: size: that of a view without leaves, and of a full one", r -> r
        .bad("fork(0, 1)", "fork(0, -1)").due(1, "fork(0, 0)").due(0, "size(1)")
        .leaves(1, 10, 100).bad("fork(1, 101)").due(2, "fork(1, 100)").due(100, "size(2)")
        .due(784729, "root(2, 100)", "rootAnew(2, 100)").due(0, "size(0)"));
    EDGES.says("promise 4: size: one below the size of the view, and 1", r -> r
        .leaves(0, 10, 5).due(1, "fork(0, 4)").due(2, "fork(0, 1)").due(4, "size(1)")
        .due(13, "leaf(1, 3)").out("leaf(1, 4)").due(1, "size(2)").due(10, "leaf(2, 0)")
        .out("leaf(2, 1)").due(5, "size(0)").due(567337, "root(1, 4)").due(417375, "root(2, 1)"));
    EDGES.says("promise 4: IllegalStateException if there are 3 views", r -> r
        .leaves(0, 10, 2).due(1, "fork(0, 2)").due(2, "fork(0, 1)")
        .state("fork(0, 0)", "fork(0, 2)", "fork(1, 1)", "fork(2, 1)").due(3, "views()")
        .out("size(3)").due(2, "size(0)", "size(1)").due(1, "size(2)"));
    EDGES.says("promise 4: what the throws clause names first", r -> r
        .due(0, "append(0, 3)").due(1, "fork(0, 1)").out("fork(2, -1)", "fork(-1, 2)")
        .due(2, "fork(0, 0)").out("fork(3, -1)", "fork(3, 0)", "fork(-1, 2)")
        .bad("fork(0, -1)", "fork(0, 2)", "fork(2, 1)").state("fork(0, 0)", "fork(0, 1)")
        .due(3, "views()"));
  }

  private static void forkedLeaves() {
    EDGES.says("promise 4: another one has its leaves then, up to a size", r -> r
        .leaves(0, 10, 5).due(1, "fork(0, 4)").due(5, "append(0, 70)").due(4, "append(1, 80)")
        .due(5, "append(1, 81)").due(14, "leaf(0, 4)").due(70, "leaf(0, 5)").due(80, "leaf(1, 4)")
        .due(81, "leaf(1, 5)").due(6, "size(0)", "size(1)")
        .due(Rows.rootOf(10, 11, 12, 13, 80, 81), "root(1, 6)", "rootAnew(1, 6)")
        .due(Rows.rootOf(10, 11, 12, 13, 14, 70), "root(0, 6)", "rootAnew(0, 6)")
        .due(2, "fork(1, 5)").due(80, "leaf(2, 4)").out("leaf(2, 5)"));
    EDGES.says("promise 4: a fork within a block has none of the sums behind it", r -> r
        .leaves(0, 10, 64).due(1, "fork(0, 33)").leaves(1, 500, 31)
        .due(2, "fork(0, 63)").due(63, "append(2, 900)")
        .due(Rows.root(10, 64), "root(0, 64)").due(Rows.root(10, 33), "root(1, 33)")
        .due(
            Model.mix(Rows.root(10, 32), Rows.rootBehind(42, 500, 31)),
            "root(1, 64)", "rootAnew(1, 64)"));
    EDGES.says("promise 4: returns the number of the new view", r -> r
        .due(1, "fork(0, 0)").due(2, "fork(1, 0)").due(3, "views()"));
  }

  private static void views() {
    EDGES.says("promise 5: returns how many views there are", r -> r
        .due(1, "views()").bad("fork(0, 1)").out("fork(1, 0)").due(1, "views()")
        .due(1, "fork(0, 0)").due(2, "views()").due(2, "fork(0, 0)").due(3, "views()")
        .state("fork(0, 0)").due(3, "views()"));
  }

  private static void size() {
    EDGES.says("promise 6: returns 0 to 100", r -> r
        .due(0, "size(0)").due(0, "append(0, 1)").due(1, "size(0)").due(1, "fork(0, 0)")
        .due(0, "size(1)").leaves(1, 0, 99).due(99, "size(1)").due(99, "append(1, 1)")
        .due(100, "size(1)").state("append(1, 1)").due(100, "size(1)").due(1, "size(0)"));
    EDGES.says("promise 6: IndexOutOfBoundsException if there is no such view", r -> r
        .out("size(LOW)", "size(-1)", "size(1)", "size(HIGH)").due(0, "size(0)")
        .due(1, "fork(0, 0)").due(0, "size(1)").out("size(2)", "size(-1)")
        .due(2, "fork(0, 0)").due(0, "size(2)").out("size(3)", "size(-1)"));
  }

  private static void leaf() {
    EDGES.says("promise 7: IndexOutOfBoundsException if there is no such leaf", r -> r
        .out("leaf(0, 0)", "leaf(0, -1)").leaves(0, 10, 5)
        .out("leaf(0, -1)", "leaf(0, LOW)", "leaf(0, 5)", "leaf(0, 6)", "leaf(0, HIGH)")
        .due(10, "leaf(0, 0)").due(11, "leaf(0, 1)").due(13, "leaf(0, 3)").due(14, "leaf(0, 4)")
        .due(5, "append(0, 90)").due(90, "leaf(0, 5)").out("leaf(0, 6)"));
    EDGES.says("promise 7: IndexOutOfBoundsException if there is no such view", r -> r
        .leaves(0, 10, 5).out("leaf(-1, 0)", "leaf(1, 0)", "leaf(1, 5)", "leaf(LOW, LOW)")
        .out("leaf(HIGH, 0)", "leaf(2, -1)").due(1, "fork(0, 2)").due(10, "leaf(1, 0)")
        .due(11, "leaf(1, 1)").out("leaf(1, 2)", "leaf(2, 0)").due(12, "leaf(0, 2)")
        .due(2, "fork(0, 5)").due(14, "leaf(2, 4)").out("leaf(3, 0)", "leaf(2, 5)"));
    EDGES.says("promise 7: the last leaf of a full view", r -> r
        .leaves(0, 10, 100).due(108, "leaf(0, 98)").due(109, "leaf(0, 99)")
        .out("leaf(0, 100)", "leaf(0, 101)", "leaf(0, 127)", "leaf(0, 128)"));
    EDGES.says("promise 7: returns the value, the least and the greatest too", r -> r
        .due(0, "append(0, 65535)").due(1, "append(0, 0)").due(65535, "leaf(0, 0)")
        .due(0, "leaf(0, 1)"));
  }

  /** Promise 8, and promise 9, which returns the same. */
  private static void roots(String name) {
    EDGES.says(name + ": size: 0 to the size of the view", r -> r
        .due(0, name + "(0, 0)").bad(name + "(0, -1)", name + "(0, 1)").leaves(0, 10, 5)
        .bad(name + "(0, -1)", name + "(0, LOW)", name + "(0, 6)", name + "(0, HIGH)")
        .due(0, name + "(0, 0)").due(417375, name + "(0, 1)").due(567337, name + "(0, 4)")
        .due(924189, name + "(0, 5)"));
    EDGES.says(name + ": size: that of a full view", r -> r
        .leaves(0, 10, 100).due(Rows.root(10, 99), name + "(0, 99)").due(784729, name + "(0, 100)")
        .bad(name + "(0, 101)", name + "(0, 128)").due(791571, name + "(0, 65)")
        .due(356520, name + "(0, 64)").due(Rows.root(10, 63), name + "(0, 63)"));
    EDGES.says(name + ": IndexOutOfBoundsException if there is no such view", r -> r
        .out(name + "(-1, 0)", name + "(1, 0)", name + "(LOW, 0)", name + "(HIGH, 0)")
        .due(0, name + "(0, 0)").due(1, "fork(0, 0)").due(0, name + "(1, 0)").out(name + "(2, 0)")
        .due(2, "fork(0, 0)").due(0, name + "(2, 0)").out(name + "(3, 0)", name + "(-1, 0)"));
    EDGES.says(name + ": what the throws clause names first", r -> r
        .out(name + "(1, 1)", name + "(-1, -1)", name + "(3, LOW)").bad(name + "(0, 1)"));
    EDGES.says(name + ": each view by its own leaves", r -> r
        .leaves(0, 10, 5).due(1, "fork(0, 3)").due(3, "append(1, 99)")
        .due(539213, name + "(1, 3)").due(Rows.rootOf(10, 11, 12, 99), name + "(1, 4)")
        .bad(name + "(1, 5)").due(567337, name + "(0, 4)"));
  }
}
