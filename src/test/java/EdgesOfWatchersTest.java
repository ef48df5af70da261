/** The sentences on watchers that name a boundary, and promises 24 to 30. */
public final class EdgesOfWatchersTest {
  private static final Edges EDGES = new Edges("edges of watchers");
  private static final int ROOT_OF_5 = 924189;

  public static void main(String[] args) {
    watchersOfTerms();
    headsByRoots();
    show();
    showRanges();
    gossip();
    gossipSizes();
    gossipRanges();
    follow();
    followRanges();
    isAlarmed();
    kept();
    counted();
    countedBounds();
    EDGES.end();
  }

  private static void watchersOfTerms() {
    EDGES.says("terms: there are 4, 0 to 3", r -> {
      for (int watcher = 0; watcher < 4; watcher++) {
        r.yes("show(" + watcher + ", 0)").keeps(watcher, 0, 0);
      }
      r.out("show(4, 0)", "show(-1, 0)");
    });
    EDGES.says("terms: each keeps a head with its view, none at first, and is calm", r -> {
      for (int watcher = 0; watcher < 4; watcher++) {
        r.keeps(watcher, -1, -1).no("isAlarmed(" + watcher + ")");
      }
    });
    EDGES.says("terms: takes it if no head is kept, of a view without leaves too", r -> r
        .yes("show(0, 0)").keeps(0, 0, 0).keeps(1, -1, -1).leaves(0, 10, 5).yes("show(1, 0)")
        .keeps(1, 5, ROOT_OF_5).keeps(0, 0, 0).no("isAlarmed(0)", "isAlarmed(1)"));
    EDGES.says("terms: the view's size is not below the one kept: one below", r -> r
        .leaves(0, 10, 5).due(1, "fork(0, 4)").yes("show(0, 0)").no("show(0, 1)")
        .yes("isAlarmed(0)").keeps(0, 5, ROOT_OF_5).no("isAlarmed(1)"));
    EDGES.says("terms: the view's size is not below the one kept: the same", r -> r
        .leaves(0, 10, 5).due(1, "fork(0, 5)").yes("show(0, 0)", "show(0, 1)", "show(0, 0)")
        .no("isAlarmed(0)").keeps(0, 5, ROOT_OF_5));
    EDGES.says("terms: the view's size is not below the one kept: one above", r -> r
        .leaves(0, 10, 5).due(1, "fork(0, 5)").due(5, "append(1, 99)").yes("show(0, 0)")
        .yes("show(0, 1)").no("isAlarmed(0)")
        .keeps(0, 6, Rows.rootOf(10, 11, 12, 13, 14, 99)).no("show(0, 0)").yes("isAlarmed(0)")
        .keeps(0, 6, Rows.rootOf(10, 11, 12, 13, 14, 99)));
    EDGES.says("terms: the root at the size that is kept: the last leaf of it differs", r -> r
        .leaves(0, 10, 5).due(1, "fork(0, 4)").due(6, "appendRow(1, 15, 2)").yes("show(0, 0)")
        .no("show(0, 1)").yes("isAlarmed(0)").keeps(0, 5, ROOT_OF_5));
    EDGES.says("terms: the root at the size that is kept: the leaf behind it differs", r -> r
        .leaves(0, 10, 5).due(1, "fork(0, 5)").due(5, "append(0, 15)").yes("show(1, 1)")
        .due(5, "append(1, 99)").yes("show(1, 0)").no("isAlarmed(1)").no("show(1, 1)")
        .yes("isAlarmed(1)").keeps(1, 6, Rows.root(10, 6)));
    EDGES.says("terms: a head of size 0 fits every view that is shown behind it", r -> r
        .due(1, "fork(0, 0)").leaves(0, 10, 5).yes("show(2, 1)", "show(2, 1)", "show(2, 0)")
        .keeps(2, 5, ROOT_OF_5).no("isAlarmed(2)").no("show(2, 1)").yes("isAlarmed(2)")
        .keeps(2, 5, ROOT_OF_5));
    EDGES.says("terms: alarmed ones stay so, and go on taking heads and gossiping", r -> r
        .leaves(0, 10, 5).due(1, "fork(0, 3)").yes("show(0, 0)").no("show(0, 1)")
        .yes("isAlarmed(0)").due(5, "append(0, 15)").yes("show(0, 0)").keeps(0, 6, Rows.root(10, 6))
        .yes("isAlarmed(0)").yes("show(1, 1)", "gossip(0, 1)", "gossip(1, 0)")
        .yes("isAlarmed(0)").no("isAlarmed(1)").due(3, "append(1, 77)").yes("show(1, 1)")
        .no("gossip(0, 1)").yes("isAlarmed(0)", "isAlarmed(1)").yes("show(1, 1)")
        .no("gossip(1, 0)").yes("isAlarmed(0)", "isAlarmed(1)"));
  }

  /** Two views without a leaf in common, both with the root 0 at the size 2. */
  private static void headsByRoots() {
    EDGES.says("terms: the root that is kept; other leaves with the same root fit", r -> r
        .due(0, "append(0, 19)").due(1, "append(0, 24429)").due(1, "fork(0, 0)")
        .due(0, "append(1, 39)").due(1, "append(1, 26562)").due(0, "root(0, 2)", "root(1, 2)")
        .yes("show(0, 0)").keeps(0, 2, 0).yes("show(0, 1)").no("isAlarmed(0)")
        .yes("show(1, 0)", "gossip(0, 1)", "gossip(1, 0)").due(2, "append(1, 5)")
        .yes("show(1, 1)", "gossip(0, 1)", "gossip(1, 0)").no("isAlarmed(0)", "isAlarmed(1)"));
    EDGES.says("terms: a root of 0 at a size that is not 0 does not fit all", r -> r
        .due(0, "append(0, 19)").due(1, "append(0, 24429)").due(1, "fork(0, 0)")
        .leaves(1, 10, 5).yes("show(0, 0)").keeps(0, 2, 0).no("show(0, 1)").yes("isAlarmed(0)")
        .yes("show(1, 1)").no("gossip(0, 1)").yes("isAlarmed(1)"));
    EDGES.says("terms: a head is its size and its root: a root alone is not enough", r -> r
        .due(0, "append(0, 19)").due(1, "append(0, 24429)").due(1, "fork(0, 0)")
        .yes("show(0, 0)").no("show(0, 1)").yes("isAlarmed(0)").keeps(0, 2, 0));
  }

  private static void show() {
    EDGES.says("promise 24: returns whether it is taken", r -> r
        .leaves(0, 10, 5).yes("show(3, 0)", "show(3, 0)").due(1, "fork(0, 2)").no("show(3, 1)")
        .keeps(3, 5, ROOT_OF_5).yes("show(3, 0)").yes("isAlarmed(3)"));
    EDGES.says("promise 24: takes the head that the view has now", r -> r
        .yes("show(0, 0)").keeps(0, 0, 0).due(0, "append(0, 10)").keeps(0, 0, 0)
        .yes("show(0, 0)").keeps(0, 1, 417375).leaves(0, 11, 99).keeps(0, 1, 417375)
        .yes("show(0, 0)").keeps(0, 100, 784729).yes("show(0, 0)").no("isAlarmed(0)"));
    EDGES.says("promise 24: a full view against one with one leaf less", r -> r
        .leaves(0, 10, 100).due(1, "fork(0, 99)").yes("show(0, 1)", "show(0, 0)")
        .no("isAlarmed(0)").no("show(0, 1)").yes("isAlarmed(0)").due(99, "append(1, 109)")
        .yes("show(0, 1)").keeps(0, 100, 784729).yes("isAlarmed(0)"));
    EDGES.says("promise 24: takes the head with its view, which later gossip asks", r -> r
        .leaves(0, 10, 2).due(1, "fork(0, 2)").yes("show(0, 0)", "show(1, 1)")
        .due(2, "append(0, 70)").due(2, "append(1, 80)").yes("show(1, 1)")
        .yes("gossip(0, 1)", "gossip(1, 0)").yes("show(2, 0)").no("gossip(1, 2)")
        .no("isAlarmed(0)").yes("isAlarmed(1)", "isAlarmed(2)"));
  }

  private static void showRanges() {
    EDGES.says("promise 24: watcher: 0 to 3", r -> r
        .out("show(-1, 0)", "show(4, 0)", "show(LOW, 0)", "show(HIGH, 0)")
        .yes("show(0, 0)", "show(3, 0)").keeps(1, -1, -1).keeps(2, -1, -1)
        .keeps(0, 0, 0).keeps(3, 0, 0));
    EDGES.says("promise 24: IndexOutOfBoundsException if there is no such view", r -> r
        .out("show(0, -1)", "show(0, 1)", "show(0, 2)", "show(0, LOW)", "show(0, HIGH)")
        .keeps(0, -1, -1).due(1, "fork(0, 0)").yes("show(0, 1)").out("show(0, 2)")
        .due(2, "fork(0, 0)").yes("show(0, 2)").out("show(0, 3)").no("isAlarmed(0)"));
    EDGES.says("promise 24: neither such a watcher nor such a view", r -> r
        .out("show(4, 1)", "show(-1, -1)", "show(4, -1)").no("isAlarmed(3)").keeps(0, -1, -1));
  }

  private static void gossip() {
    EDGES.says("promise 25: true if one of both keeps none", r -> r
        .leaves(0, 10, 5).yes("gossip(0, 1)").yes("show(0, 0)").yes("gossip(0, 1)", "gossip(1, 0)")
        .no("isAlarmed(0)", "isAlarmed(1)").keeps(1, -1, -1).keeps(0, 5, ROOT_OF_5));
    EDGES.says("promise 25: true if both are the same", r -> r
        .yes("gossip(0, 0)", "gossip(3, 3)").leaves(0, 10, 5).due(1, "fork(0, 2)")
        .yes("show(3, 0)", "gossip(3, 3)").no("isAlarmed(3)").no("show(3, 1)")
        .yes("gossip(3, 3)").yes("isAlarmed(3)").no("isAlarmed(0)"));
    EDGES.says("promise 25: whether their heads fit; both are alarmed, and no other one", r -> r
        .leaves(0, 10, 5).due(1, "fork(0, 4)").due(4, "append(1, 99)")
        .yes("show(0, 0)", "show(1, 0)", "show(2, 1)", "show(3, 1)").no("gossip(1, 2)")
        .no("isAlarmed(0)", "isAlarmed(3)").yes("isAlarmed(1)", "isAlarmed(2)")
        .yes("gossip(0, 1)", "gossip(2, 3)").no("isAlarmed(0)", "isAlarmed(3)")
        .keeps(1, 5, ROOT_OF_5).keeps(2, 5, Rows.rootOf(10, 11, 12, 13, 99))
        .no("gossip(3, 0)").yes("isAlarmed(0)", "isAlarmed(3)"));
    EDGES.says("promise 25: heads alike of two views fit, though these differ behind them", r -> r
        .leaves(0, 10, 5).due(1, "fork(0, 5)").yes("show(0, 0)", "show(1, 1)")
        .due(5, "append(0, 70)").due(5, "append(1, 80)").yes("gossip(0, 1)", "gossip(1, 0)")
        .no("isAlarmed(0)", "isAlarmed(1)"));
  }

  private static void gossipSizes() {
    EDGES.says("promise 25: the lesser size is 0, which fits all", r -> r
        .due(1, "fork(0, 0)").leaves(0, 10, 5).yes("show(0, 1)", "show(1, 0)")
        .yes("gossip(0, 1)", "gossip(1, 0)").no("isAlarmed(0)", "isAlarmed(1)")
        .yes("show(2, 1)", "gossip(0, 2)", "gossip(2, 0)").due(0, "append(1, 99)")
        .yes("gossip(0, 1)", "gossip(1, 0)", "show(2, 1)", "gossip(2, 0)").no("gossip(2, 1)"));
    EDGES.says("promise 25: the lesser size is 1", r -> r
        .due(0, "append(0, 10)").due(1, "fork(0, 1)").due(2, "fork(0, 0)").leaves(1, 11, 4)
        .leaves(2, 20, 5).yes("show(0, 0)", "show(1, 1)", "show(2, 2)")
        .yes("gossip(0, 1)", "gossip(1, 0)").no("isAlarmed(0)").no("gossip(0, 2)")
        .yes("isAlarmed(0)", "isAlarmed(2)").no("isAlarmed(1)"));
    EDGES.says("promise 25: the greater view differs at the lesser size's last leaf", r -> r
        .leaves(0, 10, 4).due(1, "fork(0, 3)").due(6, "appendRow(1, 90, 3)")
        .yes("show(0, 0)", "show(1, 1)").no("gossip(0, 1)").yes("isAlarmed(0)", "isAlarmed(1)"));
    EDGES.says("promise 25: the same, told the other way round", r -> r
        .leaves(0, 10, 4).due(1, "fork(0, 3)").due(6, "appendRow(1, 90, 3)")
        .yes("show(0, 0)", "show(1, 1)").no("gossip(1, 0)").yes("isAlarmed(0)", "isAlarmed(1)"));
    EDGES.says("promise 25: the greater view differs just behind the lesser size", r -> r
        .leaves(0, 10, 3).yes("show(0, 0)").due(1, "fork(0, 3)").due(3, "append(0, 13)")
        .due(6, "appendRow(1, 90, 3)").yes("show(1, 1)").yes("gossip(0, 1)", "gossip(1, 0)")
        .no("isAlarmed(0)", "isAlarmed(1)").yes("show(0, 0)").no("gossip(0, 1)"));
    EDGES.says("promise 25: the greater size is the one kept, not that of the view now", r -> r
        .leaves(0, 10, 2).yes("show(0, 0)").due(1, "fork(0, 2)").due(2, "append(1, 90)")
        .yes("show(1, 1)").leaves(0, 12, 8).yes("gossip(0, 1)", "gossip(1, 0)")
        .no("isAlarmed(0)", "isAlarmed(1)"));
    EDGES.says("promise 25: the heads have the same size, and differ", r -> r
        .leaves(0, 10, 1).due(1, "fork(0, 0)").due(0, "append(1, 90)")
        .yes("show(0, 0)", "show(1, 1)").no("gossip(0, 1)", "gossip(1, 0)")
        .yes("isAlarmed(0)", "isAlarmed(1)").no("isAlarmed(2)", "isAlarmed(3)"));
    EDGES.says("promise 25: sizes 99 and 100", r -> r
        .leaves(0, 10, 99).yes("show(0, 0)").due(1, "fork(0, 99)").due(2, "fork(0, 98)")
        .due(99, "append(1, 7)").due(100, "appendRow(2, 7, 2)")
        .yes("show(1, 1)", "show(2, 2)").yes("gossip(0, 1)", "gossip(1, 0)").no("isAlarmed(0)")
        .no("gossip(2, 0)").yes("isAlarmed(0)", "isAlarmed(2)").no("isAlarmed(1)"));
  }

  private static void gossipRanges() {
    EDGES.says("promise 25: one: 0 to 3", r -> r
        .yes("show(0, 0)", "show(3, 0)").out("gossip(-1, 0)", "gossip(4, 0)", "gossip(LOW, 0)")
        .out("gossip(HIGH, 3)").yes("gossip(0, 3)", "gossip(3, 0)").no("isAlarmed(0)"));
    EDGES.says("promise 25: other: 0 to 3", r -> r
        .yes("show(0, 0)", "show(3, 0)").out("gossip(0, -1)", "gossip(0, 4)", "gossip(3, LOW)")
        .out("gossip(3, HIGH)").yes("gossip(0, 3)", "gossip(3, 0)").no("isAlarmed(0)"));
    EDGES.says("promise 25: no such watcher, though both are the same", r -> r
        .out("gossip(-1, -1)", "gossip(4, 4)", "gossip(LOW, LOW)", "gossip(HIGH, HIGH)")
        .yes("gossip(0, 0)", "gossip(3, 3)"));
  }

  private static void follow() {
    EDGES.says("promise 26: the count begins at 0", r -> r
        .due(0, "append(0, 5)").nothing("follow(0, 5)").due(0, "counted(0)").yes("show(0, 0)")
        .due(1, "counted(0)").nothing("follow(0, 5)").due(0, "counted(0)").yes("show(0, 0)")
        .due(0, "counted(0)").due(1, "append(0, 5)").yes("show(0, 0)").due(1, "counted(0)")
        .nothing("follow(0, 6)").due(0, "counted(0)"));
    EDGES.says("promise 26: another value in place of the one followed", r -> r
        .nothing("follow(0, 5)", "follow(0, 6)").due(0, "append(0, 5)").due(1, "append(0, 6)")
        .due(2, "append(0, 6)").yes("show(0, 0)").due(2, "counted(0)").nothing("follow(0, 5)")
        .due(3, "append(0, 6)").due(4, "append(0, 5)").yes("show(0, 0)").due(1, "counted(0)"));
    EDGES.says("promise 26: lets this watcher follow, alone", r -> r
        .nothing("follow(1, 5)", "follow(2, 6)").due(0, "append(0, 5)").due(1, "append(0, 6)")
        .due(2, "append(0, 6)").yes("show(0, 0)", "show(1, 0)", "show(2, 0)", "show(3, 0)")
        .due(0, "counted(0)", "counted(3)").due(1, "counted(1)").due(2, "counted(2)"));
  }

  private static void followRanges() {
    EDGES.says("promise 26: value: 0 to 65535", r -> r
        .nothing("follow(0, 0)", "follow(1, 65535)").bad("follow(0, -1)", "follow(0, 65536)")
        .bad("follow(1, -1)", "follow(1, 65536)", "follow(1, LOW)", "follow(1, HIGH)")
        .due(0, "append(0, 0)").due(1, "append(0, 65535)").due(2, "append(0, 0)")
        .yes("show(0, 0)", "show(1, 0)").due(2, "counted(0)").due(1, "counted(1)")
        .bad("follow(0, 65536)", "follow(1, -1)").due(2, "counted(0)").due(1, "counted(1)")
        .due(3, "append(0, 0)").yes("show(0, 0)").due(3, "counted(0)"));
    EDGES.says("promise 26: a refused value is not followed", r -> r
        .bad("follow(0, -1)", "follow(0, 65536)").leaves(0, 0, 3).yes("show(0, 0)")
        .due(0, "counted(0)"));
    EDGES.says("promise 26: watcher: 0 to 3", r -> r
        .out("follow(-1, 5)", "follow(4, 5)", "follow(LOW, 5)", "follow(HIGH, 5)")
        .nothing("follow(0, 5)", "follow(3, 5)").due(0, "append(0, 5)")
        .yes("show(0, 0)", "show(1, 0)", "show(2, 0)", "show(3, 0)")
        .due(1, "counted(0)", "counted(3)").due(0, "counted(1)", "counted(2)"));
    EDGES.says("promise 26: what the throws clause names first", r -> r
        .out("follow(4, -1)", "follow(-1, 65536)", "follow(4, 65536)").bad("follow(3, -1)"));
  }

  private static void isAlarmed() {
    EDGES.says("promise 27: watcher: 0 to 3", r -> r
        .out("isAlarmed(-1)", "isAlarmed(4)", "isAlarmed(LOW)", "isAlarmed(HIGH)")
        .no("isAlarmed(0)", "isAlarmed(3)"));
    EDGES.says("promise 27: each for itself", r -> {
      r.leaves(0, 10, 2).due(1, "fork(0, 1)");
      for (int watcher = 0; watcher < 4; watcher++) {
        r.yes("show(" + watcher + ", 0)").no("isAlarmed(" + watcher + ")");
        r.no("show(" + watcher + ", 1)").yes("isAlarmed(" + watcher + ")");
        for (int later = watcher + 1; later < 4; later++) {
          r.no("isAlarmed(" + later + ")");
        }
      }
    });
    EDGES.says("promise 27: refused calls alarm nobody", r -> r
        .leaves(0, 10, 2).yes("show(0, 0)").out("show(0, 1)", "show(4, 0)", "gossip(0, 4)")
        .bad("follow(0, -1)", "fork(0, 3)").no("isAlarmed(0)", "isAlarmed(3)"));
  }

  private static void kept() {
    EDGES.says("promise 28: watcher: 0 to 3", r -> r
        .out("keptSize(-1)", "keptSize(4)", "keptSize(LOW)", "keptSize(HIGH)")
        .due(-1, "keptSize(0)", "keptSize(3)"));
    EDGES.says("promise 28: returns the size; NONE if no head is kept", r -> r
        .due(-1, "keptSize(0)").yes("show(0, 0)").due(0, "keptSize(0)").leaves(0, 10, 1)
        .due(0, "keptSize(0)").yes("show(0, 0)").due(1, "keptSize(0)").leaves(0, 11, 99)
        .yes("show(0, 0)").due(100, "keptSize(0)").due(-1, "keptSize(1)"));
    EDGES.says("promise 29: watcher: 0 to 3", r -> r
        .out("keptRoot(-1)", "keptRoot(4)", "keptRoot(LOW)", "keptRoot(HIGH)")
        .due(-1, "keptRoot(0)", "keptRoot(3)"));
    EDGES.says("promise 29: returns the root; NONE if no head is kept", r -> r
        .due(-1, "keptRoot(3)").yes("show(3, 0)").due(0, "keptRoot(3)").leaves(0, 10, 1)
        .due(0, "keptRoot(3)").yes("show(3, 0)").due(417375, "keptRoot(3)").leaves(0, 11, 4)
        .yes("show(3, 0)").due(ROOT_OF_5, "keptRoot(3)").due(-1, "keptRoot(2)"));
    EDGES.says("promise 29: the greatest root", r -> r
        .due(0, "append(0, 4)").due(1, "append(0, 44777)").yes("show(0, 0)")
        .keeps(0, 2, 1000002));
  }

  private static void counted() {
    EDGES.says("promise 30: watcher: 0 to 3", r -> r
        .out("counted(-1)", "counted(4)", "counted(LOW)", "counted(HIGH)")
        .due(0, "counted(0)", "counted(3)"));
    EDGES.says("promise 30: 0 if no value is followed", r -> r
        .due(0, "append(0, 0)").yes("show(0, 0)").due(0, "counted(0)").nothing("follow(0, 0)")
        .due(0, "counted(0)").yes("show(0, 0)").due(0, "counted(0)"));
    EDGES.says("promise 30: of 100 leaves none, and all", r -> {
      for (int leaf = 0; leaf < 100; leaf++) {
        r.due(leaf, "append(0, 65535)");
      }
      r.nothing("follow(0, 65535)", "follow(1, 65534)").yes("show(0, 0)", "show(1, 0)");
      r.due(100, "counted(0)").due(0, "counted(1)").yes("show(0, 0)").due(100, "counted(0)");
    });
    EDGES.says("promise 30: not when a head is not taken", r -> r
        .leaves(0, 10, 2).due(1, "fork(0, 1)").due(3, "appendRow(1, 5, 2)").yes("show(0, 0)")
        .nothing("follow(0, 6)").no("show(0, 1)").due(0, "counted(0)").yes("show(1, 1)")
        .no("gossip(0, 1)").due(0, "counted(0)"));
    EDGES.says("promise 30: an alarmed watcher goes on counting", r -> r
        .leaves(0, 10, 2).due(1, "fork(0, 1)").nothing("follow(0, 5)").yes("show(0, 0)")
        .no("show(0, 1)").yes("isAlarmed(0)").due(2, "append(0, 5)").yes("show(0, 0)")
        .due(1, "counted(0)"));
  }

  private static void countedBounds() {
    EDGES.says("terms: from the size that was kept up to the new one: first and last", r -> r
        .due(0, "append(0, 5)").due(1, "append(0, 5)").yes("show(0, 0)").nothing("follow(0, 5)")
        .due(2, "append(0, 6)").due(3, "append(0, 6)").yes("show(0, 0)").due(0, "counted(0)")
        .due(4, "append(0, 5)").due(5, "append(0, 6)").yes("show(0, 0)").due(1, "counted(0)")
        .due(6, "append(0, 6)").due(7, "append(0, 5)").yes("show(0, 0)").due(2, "counted(0)")
        .yes("show(0, 0)").due(2, "counted(0)"));
    EDGES.says("terms: 0 if none was kept: from the first leaf on", r -> r
        .due(0, "append(0, 5)").due(1, "append(0, 6)").due(2, "append(0, 5)")
        .nothing("follow(0, 5)").yes("show(0, 0)").due(2, "counted(0)"));
    EDGES.says("terms: 0 if none was kept: as if a size of 0 was kept", r -> r
        .yes("show(0, 0)").nothing("follow(0, 5)", "follow(1, 5)").due(0, "append(0, 5)")
        .yes("show(0, 0)", "show(1, 0)").due(1, "counted(0)", "counted(1)"));
    EDGES.says("terms: the leaves of the view that is taken, which is another one", r -> r
        .due(0, "append(0, 5)").due(1, "fork(0, 1)").due(1, "append(0, 6)").due(1, "append(1, 5)")
        .due(2, "append(1, 5)").nothing("follow(0, 5)", "follow(1, 5)").yes("show(0, 0)")
        .due(1, "counted(0)").no("show(0, 1)").due(1, "counted(0)").yes("show(1, 1)")
        .due(3, "counted(1)").due(2, "fork(0, 2)").due(2, "append(2, 5)").yes("show(0, 2)")
        .due(2, "counted(0)"));
    EDGES.says("terms: what was counted stays when a later head has none", r -> r
        .nothing("follow(0, 5)").due(0, "append(0, 5)").yes("show(0, 0)").due(1, "append(0, 6)")
        .yes("show(0, 0)").due(1, "counted(0)").due(2, "append(0, 5)").due(1, "counted(0)")
        .yes("show(0, 0)").due(2, "counted(0)"));
  }
}
