import java.lang.reflect.Method;
import java.util.function.IntFunction;

/** For each promise a test of its own, called after its number: uses, edges, wrong arguments. */
public final class PromisesTest {
  private static final int LOW = Integer.MIN_VALUE;
  private static final int HIGH = Integer.MAX_VALUE;

  public static void main(String[] args) throws ReflectiveOperationException {
    int passed = 0;
    int failed = 0;
    for (int number = 1; number <= 30; number++) {
      Check check = new Check("promise " + number);
      Method test = PromisesTest.class.getDeclaredMethod("promise" + number, Check.class);
      try {
        test.invoke(null, check);
      } catch (ReflectiveOperationException e) {
        check.same("the whole test", "no exception", String.valueOf(e.getCause()));
      }
      if (check.holds()) {
        passed++;
      } else {
        failed++;
      }
    }
    System.out.println(passed + " passed, " + failed + " failed");
    if (failed > 0) {
      System.exit(1);
    }
  }

  private static TreeheadGallery fresh() {
    return new TreeheadGallery();
  }

  /** View 0 with the values 10, 11 and so on. */
  private static TreeheadGallery grown(int leaves) {
    TreeheadGallery x = fresh();
    for (int done = 0; done < leaves; done += 40) {
      x.appendRow(0, 10 + done, Math.min(40, leaves - done));
    }
    return x;
  }

  /** View 0 with 1 to 6; view 1 with its first three, and 4, 90, 91; view 2 with all six. */
  private static TreeheadGallery forked() {
    TreeheadGallery x = fresh();
    x.appendRow(0, 1, 6);
    x.fork(0, 3);
    x.append(1, 4);
    x.appendRow(1, 90, 2);
    x.fork(0, 6);
    return x;
  }

  private static void sumsAre(Check c, TreeheadGallery x, int... sums) {
    c.due("sums()", sums.length, x::sums);
    for (int place = 0; place < sums.length; place++) {
      int at = place;
      c.due("sumAt(" + place + ")", sums[place], () -> x.sumAt(at));
    }
  }

  private static void keeps(Check c, TreeheadGallery x, int watcher, int size, int root) {
    c.due("keptSize(" + watcher + ")", size, () -> x.keptSize(watcher));
    c.due("keptRoot(" + watcher + ")", root, () -> x.keptRoot(watcher));
  }

  static void promise1(Check c) {
    TreeheadGallery x = fresh();
    c.due("views()", 1, x::views);
    c.due("size(0)", 0, () -> x.size(0));
    c.due("root(0, 0)", 0, () -> x.root(0, 0));
    c.due("mapRoot()", 0, x::mapRoot);
    c.due("sums()", 0, x::sums);
    for (int key = 0; key < 64; key++) {
      int at = key;
      c.due("get(" + key + ")", -1, () -> x.get(at));
    }
    for (int watcher = 0; watcher < 4; watcher++) {
      int at = watcher;
      c.due("isAlarmed(" + watcher + ")", false, () -> x.isAlarmed(at));
      c.due("counted(" + watcher + ")", 0, () -> x.counted(at));
      keeps(c, x, watcher, -1, -1);
    }
    x.append(0, 7);
    x.put(3, 9);
    TreeheadGallery y = fresh();
    c.due("size(0) of another object", 0, () -> y.size(0));
    c.due("get(3) of another object", -1, () -> y.get(3));
  }

  static void promise2(Check c) {
    TreeheadGallery x = fresh();
    c.due("append(0, 0)", 0, () -> x.append(0, 0));
    c.due("append(0, 65535)", 1, () -> x.append(0, 65535));
    c.due("append(0, 65535) once more", 2, () -> x.append(0, 65535));
    c.due("leaf(0, 1)", 65535, () -> x.leaf(0, 1));
    for (int view : new int[] {-1, 1, 2, 3, LOW, HIGH}) {
      c.outOfBounds("append(" + view + ", -1)", () -> x.append(view, -1));
    }
    for (int value : new int[] {-1, 65536, LOW, HIGH}) {
      c.badArgument("append(0, " + value + ")", () -> x.append(0, value));
    }
    c.due("size(0)", 3, () -> x.size(0));
    TreeheadGallery full = grown(99);
    c.due("append(0, 5) to 99", 99, () -> full.append(0, 5));
    c.badState("append(0, 5) to 100", () -> full.append(0, 5));
    c.badArgument("append(0, 65536) to 100", () -> full.append(0, 65536));
    c.outOfBounds("append(1, 65536)", () -> full.append(1, 65536));
    c.due("size(0)", 100, () -> full.size(0));
    c.due("leaf(0, 99)", 5, () -> full.leaf(0, 99));
  }

  static void promise3(Check c) {
    TreeheadGallery x = fresh();
    c.due("appendRow(0, 7, 1)", 1, () -> x.appendRow(0, 7, 1));
    c.due("appendRow(0, 0, 40)", 41, () -> x.appendRow(0, 0, 40));
    c.due("appendRow(0, 65496, 40)", 81, () -> x.appendRow(0, 65496, 40));
    c.due("leaf(0, 0)", 7, () -> x.leaf(0, 0));
    c.due("leaf(0, 1)", 0, () -> x.leaf(0, 1));
    c.due("leaf(0, 40)", 39, () -> x.leaf(0, 40));
    c.due("leaf(0, 80)", 65535, () -> x.leaf(0, 80));
    c.outOfBounds("appendRow(1, -1, 0)", () -> x.appendRow(1, -1, 0));
    c.outOfBounds("appendRow(-1, 0, 1)", () -> x.appendRow(-1, 0, 1));
    int[][] wrong = {
      {-1, 1}, {65536, 1}, {0, 0}, {0, -1}, {0, 41}, {65535, 2}, {65497, 40}, {-1, 2}, {LOW, LOW},
      {HIGH, HIGH}, {HIGH, 40}, {LOW, 40}, {0, LOW}, {0, HIGH}, {65536, 0}, {1, HIGH}, {65530, 9}
    };
    for (int[] w : wrong) {
      c.badArgument("appendRow(0, " + w[0] + ", " + w[1] + ")", () -> x.appendRow(0, w[0], w[1]));
    }
    c.due("size(0)", 81, () -> x.size(0));
    c.badState("appendRow(0, 0, 20) to 81", () -> x.appendRow(0, 0, 20));
    c.due("size(0)", 81, () -> x.size(0));
    c.due("appendRow(0, 65535, 1)", 82, () -> x.appendRow(0, 65535, 1));
    c.due("appendRow(0, 50, 18)", 100, () -> x.appendRow(0, 50, 18));
    c.badState("appendRow(0, 0, 1) to 100", () -> x.appendRow(0, 0, 1));
    c.badArgument("appendRow(0, 0, 41) to 100", () -> x.appendRow(0, 0, 41));
    c.due("leaf(0, 99)", 67, () -> x.leaf(0, 99));
  }

  static void promise4(Check c) {
    TreeheadGallery x = grown(5);
    c.badArgument("fork(0, 6)", () -> x.fork(0, 6));
    c.badArgument("fork(0, -1)", () -> x.fork(0, -1));
    c.outOfBounds("fork(1, -1)", () -> x.fork(1, -1));
    c.outOfBounds("fork(-1, 0)", () -> x.fork(-1, 0));
    c.due("views()", 1, x::views);
    c.due("fork(0, 5)", 1, () -> x.fork(0, 5));
    c.due("append(0, 600)", 5, () -> x.append(0, 600));
    c.due("append(1, 700)", 5, () -> x.append(1, 700));
    c.due("append(1, 701)", 6, () -> x.append(1, 701));
    c.due("leaf(0, 5)", 600, () -> x.leaf(0, 5));
    c.due("leaf(1, 5)", 700, () -> x.leaf(1, 5));
    c.due("leaf(1, 4)", 14, () -> x.leaf(1, 4));
    c.due("fork(1, 0)", 2, () -> x.fork(1, 0));
    c.due("size(2)", 0, () -> x.size(2));
    c.badState("fork(1, 0) with 3 views", () -> x.fork(1, 0));
    c.badArgument("fork(1, 8) with 3 views", () -> x.fork(1, 8));
    c.outOfBounds("fork(3, 0) with 3 views", () -> x.fork(3, 0));
    c.due("views()", 3, x::views);
    TreeheadGallery full = grown(100);
    c.due("fork(0, 100)", 1, () -> full.fork(0, 100));
    c.due("fork(1, 99)", 2, () -> full.fork(1, 99));
    c.due("root(1, 100)", 784729, () -> full.root(1, 100));
    c.badState("append(1, 1)", () -> full.append(1, 1));
    c.due("append(2, 109)", 99, () -> full.append(2, 109));
    c.due("root(2, 100)", 784729, () -> full.root(2, 100));
  }

  static void promise5(Check c) {
    TreeheadGallery x = fresh();
    c.due("views()", 1, x::views);
    x.fork(0, 0);
    c.due("views()", 2, x::views);
    x.fork(1, 0);
    c.due("views()", 3, x::views);
  }

  static void promise6(Check c) {
    TreeheadGallery x = forked();
    x.append(2, 5);
    c.due("size(0)", 6, () -> x.size(0));
    c.due("size(1)", 6, () -> x.size(1));
    c.due("size(2)", 7, () -> x.size(2));
    c.due("size(0) of 100", 100, () -> grown(100).size(0));
    for (int view : new int[] {-1, 3, LOW, HIGH}) {
      c.outOfBounds("size(" + view + ")", () -> x.size(view));
    }
    c.outOfBounds("size(1) with 1 view", () -> fresh().size(1));
    c.outOfBounds("size(2) with 1 view", () -> fresh().size(2));
  }

  static void promise7(Check c) {
    TreeheadGallery x = forked();
    int[][] leaves = {{1, 2, 3, 4, 5, 6}, {1, 2, 3, 4, 90, 91}, {1, 2, 3, 4, 5, 6}};
    for (int view = 0; view < 3; view++) {
      for (int leaf = 0; leaf < 6; leaf++) {
        int v = view;
        int i = leaf;
        c.due("leaf(" + v + ", " + i + ")", leaves[v][i], () -> x.leaf(v, i));
      }
    }
    for (int leaf : new int[] {-1, 6, 99, 100, LOW, HIGH}) {
      c.outOfBounds("leaf(0, " + leaf + ")", () -> x.leaf(0, leaf));
    }
    c.outOfBounds("leaf(3, 0)", () -> x.leaf(3, 0));
    c.outOfBounds("leaf(-1, 0)", () -> x.leaf(-1, 0));
    c.outOfBounds("leaf(0, 0) without leaves", () -> fresh().leaf(0, 0));
    c.outOfBounds("leaf(0, 100) of 100", () -> grown(100).leaf(0, 100));
  }

  static void promise8(Check c) {
    TreeheadGallery x = grown(100);
    int[][] roots = {
      {0, 0}, {1, 417375}, {2, 662563}, {3, 539213}, {4, 567337}, {5, 924189}, {8, 826660},
      {64, 356520}, {65, 791571}, {100, 784729}
    };
    for (int[] r : roots) {
      c.due("root(0, " + r[0] + ")", r[1], () -> x.root(0, r[0]));
    }
    wrongSizes(c, x, "root");
    TreeheadGallery top = fresh();
    top.append(0, 65535);
    c.due("root(0, 1) of 65535", 368488, () -> top.root(0, 1));
    top.append(0, 65535);
    c.due("root(0, 2) of 65535 twice", 321544, () -> top.root(0, 2));
  }

  private static void wrongSizes(Check c, TreeheadGallery x, String name) {
    boolean anew = name.equals("rootAnew");
    for (int size : new int[] {-1, 101, LOW, HIGH}) {
      c.badArgument(
          name + "(0, " + size + ")", () -> anew ? x.rootAnew(0, size) : x.root(0, size));
    }
    for (int view : new int[] {-1, 1, 3, LOW, HIGH}) {
      c.outOfBounds(
          name + "(" + view + ", -1)", () -> anew ? x.rootAnew(view, -1) : x.root(view, -1));
    }
    TreeheadGallery none = fresh();
    c.due(name + "(0, 0)", 0, () -> anew ? none.rootAnew(0, 0) : none.root(0, 0));
    c.badArgument(name + "(0, 1)", () -> anew ? none.rootAnew(0, 1) : none.root(0, 1));
  }

  static void promise9(Check c) {
    TreeheadGallery x = grown(100);
    for (int size = 0; size <= 100; size++) {
      int at = size;
      c.due("rootAnew(0, " + size + ")", x.root(0, size), () -> x.rootAnew(0, at));
    }
    c.due("rootAnew(0, 100)", 784729, () -> x.rootAnew(0, 100));
    c.due("rootAnew(0, 7)", 870675, () -> x.rootAnew(0, 7));
    wrongSizes(c, x, "rootAnew");
  }

  static void promise10(Check c) {
    TreeheadGallery x = grown(7);
    c.due("loadLeaf(0, 4, 7)", 3, () -> x.loadLeaf(0, 4, 7));
    sumsAre(c, x, Model.leafSum(15), Model.leafSum(16), 567337);
    c.due("loadLeaf(0, 6, 7)", 2, () -> x.loadLeaf(0, 6, 7));
    sumsAre(c, x, Model.mix(Model.leafSum(14), Model.leafSum(15)), 567337);
    c.due("loadLeaf(0, 0, 1)", 0, () -> x.loadLeaf(0, 0, 1));
    sumsAre(c, x);
    c.due("loadLeaf(0, 2, 3)", 1, () -> x.loadLeaf(0, 2, 3));
    sumsAre(c, x, 662563);
    c.badArgument("loadLeaf(0, 7, 7)", () -> x.loadLeaf(0, 7, 7));
    c.badArgument("loadLeaf(0, -1, 7)", () -> x.loadLeaf(0, -1, 7));
    c.badArgument("loadLeaf(0, 0, 8)", () -> x.loadLeaf(0, 0, 8));
    c.badArgument("loadLeaf(0, 0, 0)", () -> x.loadLeaf(0, 0, 0));
    c.badArgument("loadLeaf(0, -1, 0)", () -> x.loadLeaf(0, -1, 0));
    c.badArgument("loadLeaf(0, LOW, LOW)", () -> x.loadLeaf(0, LOW, LOW));
    c.badArgument("loadLeaf(0, HIGH, HIGH)", () -> x.loadLeaf(0, HIGH, HIGH));
    c.outOfBounds("loadLeaf(1, -1, 7)", () -> x.loadLeaf(1, -1, 7));
    c.outOfBounds("loadLeaf(-1, 0, 1)", () -> x.loadLeaf(-1, 0, 1));
    sumsAre(c, x, 662563);
    TreeheadGallery full = grown(100);
    c.due("loadLeaf(0, 0, 100)", 7, () -> full.loadLeaf(0, 0, 100));
    c.due("loadLeaf(0, 99, 100)", 4, () -> full.loadLeaf(0, 99, 100));
    c.due("loadLeaf(0, 99, 100) tests", true, () -> full.testLeaf(0, 109, 99, 100));
  }

  static void promise11(Check c) {
    TreeheadGallery x = grown(7);
    c.due("loadGrowth(0, 3, 7)", 4, () -> x.loadGrowth(0, 3, 7));
    int[] leaf = new int[7];
    for (int i = 0; i < 7; i++) {
      leaf[i] = Model.leafSum(10 + i);
    }
    sumsAre(c, x, leaf[2], leaf[3], 662563, Model.mix(Model.mix(leaf[4], leaf[5]), leaf[6]));
    c.due("loadGrowth(0, 6, 7)", 3, () -> x.loadGrowth(0, 6, 7));
    sumsAre(c, x, Model.mix(leaf[4], leaf[5]), leaf[6], 567337);
    c.due("loadGrowth(0, 4, 7)", 1, () -> x.loadGrowth(0, 4, 7));
    c.due("loadGrowth(0, 1, 7)", 3, () -> x.loadGrowth(0, 1, 7));
    sumsAre(c, x, leaf[1], Model.mix(leaf[2], leaf[3]), 588480);
    c.due("loadGrowth(0, 7, 7)", 0, () -> x.loadGrowth(0, 7, 7));
    sumsAre(c, x);
    c.due("loadGrowth(0, 1, 1)", 0, () -> x.loadGrowth(0, 1, 1));
    c.due("loadGrowth(0, 1, 2)", 1, () -> x.loadGrowth(0, 1, 2));
    c.badArgument("loadGrowth(0, 0, 7)", () -> x.loadGrowth(0, 0, 7));
    c.badArgument("loadGrowth(0, 8, 7)", () -> x.loadGrowth(0, 8, 7));
    c.badArgument("loadGrowth(0, 1, 8)", () -> x.loadGrowth(0, 1, 8));
    c.badArgument("loadGrowth(0, 1, 0)", () -> x.loadGrowth(0, 1, 0));
    c.badArgument("loadGrowth(0, 0, 0)", () -> x.loadGrowth(0, 0, 0));
    c.badArgument("loadGrowth(0, LOW, LOW)", () -> x.loadGrowth(0, LOW, LOW));
    c.badArgument("loadGrowth(0, HIGH, HIGH)", () -> x.loadGrowth(0, HIGH, HIGH));
    c.outOfBounds("loadGrowth(1, 0, 0)", () -> x.loadGrowth(1, 0, 0));
    c.outOfBounds("loadGrowth(-1, 1, 1)", () -> x.loadGrowth(-1, 1, 1));
    sumsAre(c, x, leaf[1]);
    TreeheadGallery full = grown(100);
    c.due("loadGrowth(0, 63, 100)", 8, () -> full.loadGrowth(0, 63, 100));
    c.due("loadGrowth(0, 64, 100)", 1, () -> full.loadGrowth(0, 64, 100));
  }

  static void promise12(Check c) {
    TreeheadGallery x = fresh();
    c.due("loadKey(63)", 6, () -> x.loadKey(63));
    sumsAre(c, x, 0, 0, 0, 0, 0, 0);
    x.put(0, 1);
    x.put(1, 2);
    x.put(4, 9);
    x.put(63, 65535);
    int a = Model.leafSum(2);
    int b = Model.leafSum(3);
    int d = Model.leafSum(10);
    int last = Model.leafSum(65536);
    for (int level = 1; level <= 5; level++) {
      last = Model.mix(0, last);
    }
    c.due("loadKey(0)", 6, () -> x.loadKey(0));
    sumsAre(c, x, b, 0, Model.mix(Model.mix(d, 0), 0), 0, 0, last);
    c.due("loadKey(1)", 6, () -> x.loadKey(1));
    sumsAre(c, x, a, 0, Model.mix(Model.mix(d, 0), 0), 0, 0, last);
    c.due("loadKey(5)", 6, () -> x.loadKey(5));
    sumsAre(c, x, d, 0, Model.mix(Model.mix(a, b), 0), 0, 0, last);
    for (int key : new int[] {-1, 64, LOW, HIGH}) {
      c.badArgument("loadKey(" + key + ")", () -> x.loadKey(key));
    }
    sumsAre(c, x, d, 0, Model.mix(Model.mix(a, b), 0), 0, 0, last);
  }

  static void promise13(Check c) {
    TreeheadGallery x = fresh();
    c.outOfBounds("change(1, 5)", () -> x.change(1, 5));
    c.outOfBounds("change(-1, -1)", () -> x.change(-1, -1));
    c.badArgument("change(0, -1)", () -> x.change(0, -1));
    c.badArgument("change(0, 1000003)", () -> x.change(0, 1000003));
    c.badArgument("change(0, HIGH)", () -> x.change(0, HIGH));
    c.due("sums()", 0, x::sums);
    for (int place = 0; place < 12; place++) {
      int at = place;
      c.due("change(" + place + ", ..)", place + 1, () -> x.change(at, 1000002 - at));
    }
    c.badState("change(12, 0)", () -> x.change(12, 0));
    c.badArgument("change(12, -1)", () -> x.change(12, -1));
    c.outOfBounds("change(13, -1)", () -> x.change(13, -1));
    c.outOfBounds("change(HIGH, 0)", () -> x.change(HIGH, 0));
    c.outOfBounds("change(LOW, 0)", () -> x.change(LOW, 0));
    c.due("change(11, 0)", 12, () -> x.change(11, 0));
    c.due("change(0, 4)", 12, () -> x.change(0, 4));
    sumsAre(
        c, x, 4, 1000001, 1000000, 999999, 999998, 999997, 999996, 999995, 999994, 999993, 999992,
        0);
    x.loadKey(1);
    c.outOfBounds("change(7, 0) behind a loaded proof", () -> x.change(7, 0));
    c.due("change(6, 8)", 7, () -> x.change(6, 8));
    sumsAre(c, x, 0, 0, 0, 0, 0, 0, 8);
  }

  static void promise14(Check c) {
    TreeheadGallery x = fresh();
    c.badState("shorten()", x::shorten);
    x.change(0, 5);
    x.change(1, 1000002);
    c.due("shorten()", 1000002, x::shorten);
    c.due("sums()", 1, x::sums);
    c.outOfBounds("sumAt(1)", () -> x.sumAt(1));
    c.due("shorten()", 5, x::shorten);
    c.badState("shorten()", x::shorten);
    c.due("sums()", 0, x::sums);
    x.loadKey(0);
    x.change(5, 77);
    c.due("shorten()", 77, x::shorten);
    c.due("sums()", 5, x::sums);
  }

  static void promise15(Check c) {
    TreeheadGallery x = grown(9);
    c.due("sums()", 0, x::sums);
    x.loadLeaf(0, 0, 9);
    c.due("sums()", 4, x::sums);
    x.loadLeaf(0, 8, 9);
    c.due("sums()", 1, x::sums);
    x.loadKey(9);
    c.due("sums()", 6, x::sums);
    x.change(6, 3);
    c.due("sums()", 7, x::sums);
    x.shorten();
    c.due("sums()", 6, x::sums);
    x.loadGrowth(0, 9, 9);
    c.due("sums()", 0, x::sums);
  }

  static void promise16(Check c) {
    TreeheadGallery x = fresh();
    c.outOfBounds("sumAt(0)", () -> x.sumAt(0));
    for (int place = 0; place < 12; place++) {
      x.change(place, 100 + place);
    }
    for (int place = 0; place < 12; place++) {
      int at = place;
      c.due("sumAt(" + place + ")", 100 + place, () -> x.sumAt(at));
    }
    for (int place : new int[] {-1, 12, 13, LOW, HIGH}) {
      c.outOfBounds("sumAt(" + place + ")", () -> x.sumAt(place));
    }
    x.shorten();
    c.outOfBounds("sumAt(11) of 11", () -> x.sumAt(11));
    x.loadKey(0);
    c.outOfBounds("sumAt(6) of 6", () -> x.sumAt(6));
  }

  static void promise17(Check c) {
    TreeheadGallery x = forked();
    x.loadLeaf(0, 2, 6);
    c.due("testLeaf(0, 3, 2, 6)", true, () -> x.testLeaf(0, 3, 2, 6));
    c.due("testLeaf(2, 3, 2, 6)", true, () -> x.testLeaf(2, 3, 2, 6));
    c.due("testLeaf(1, 3, 2, 6)", false, () -> x.testLeaf(1, 3, 2, 6));
    c.due("testLeaf(0, 4, 2, 6)", false, () -> x.testLeaf(0, 4, 2, 6));
    c.due("testLeaf(0, 3, 3, 6)", false, () -> x.testLeaf(0, 3, 3, 6));
    c.due("testLeaf(0, 3, 2, 5)", false, () -> x.testLeaf(0, 3, 2, 5));
    c.due("testLeaf(0, 3, 2, 4)", false, () -> x.testLeaf(0, 3, 2, 4));
    x.change(3, 0);
    c.due("testLeaf(0, 3, 2, 6) with a sum more", false, () -> x.testLeaf(0, 3, 2, 6));
    x.shorten();
    c.due("testLeaf(0, 3, 2, 6) again", true, () -> x.testLeaf(0, 3, 2, 6));
    x.shorten();
    c.due("testLeaf(0, 3, 2, 6) with one less", false, () -> x.testLeaf(0, 3, 2, 6));
    c.due("testLeaf(0, 3, 2, 4) with the rest", true, () -> x.testLeaf(0, 3, 2, 4));
    x.change(0, x.sumAt(0) == 0 ? 1 : 0);
    c.due("testLeaf(0, 3, 2, 4) changed", false, () -> x.testLeaf(0, 3, 2, 4));
    c.outOfBounds("testLeaf(3, -1, -1, 0)", () -> x.testLeaf(3, -1, -1, 0));
    c.outOfBounds("testLeaf(-1, 0, 0, 1)", () -> x.testLeaf(-1, 0, 0, 1));
    int[][] wrong = {
      {-1, 0, 1}, {65536, 0, 1}, {1, -1, 1}, {1, 1, 1}, {1, 0, 0}, {1, 0, 7}, {1, 6, 7},
      {1, -1, 0}, {LOW, 0, 1}, {1, LOW, 6}, {1, HIGH, 6}, {1, 0, LOW}, {1, 0, HIGH}
    };
    for (int[] w : wrong) {
      c.badArgument(
          "testLeaf(0, " + w[0] + ", " + w[1] + ", " + w[2] + ")",
          () -> x.testLeaf(0, w[0], w[1], w[2]));
    }
    TreeheadGallery one = fresh();
    one.append(0, 65535);
    c.due("testLeaf(0, 65535, 0, 1)", true, () -> one.testLeaf(0, 65535, 0, 1));
    c.due("testLeaf(0, 0, 0, 1)", false, () -> one.testLeaf(0, 0, 0, 1));
    allLeaves(c);
  }

  private static void allLeaves(Check c) {
    for (int size = 1; size <= 100; size++) {
      TreeheadGallery x = grown(100);
      for (int leaf = 0; leaf < size; leaf++) {
        int n = size;
        int i = leaf;
        x.loadLeaf(0, leaf, size);
        c.due("testLeaf of " + i + " in " + n, true, () -> x.testLeaf(0, 10 + i, i, n));
        c.due("testLeaf of " + i + " in " + n, false, () -> x.testLeaf(0, 9 + i, i, n));
      }
    }
  }

  static void promise18(Check c) {
    TreeheadGallery x = forked();
    x.loadGrowth(0, 3, 6);
    c.due("testGrowth(0, 3, 0, 6)", true, () -> x.testGrowth(0, 3, 0, 6));
    c.due("testGrowth(1, 3, 0, 6)", true, () -> x.testGrowth(1, 3, 0, 6));
    c.due("testGrowth(1, 3, 2, 6)", true, () -> x.testGrowth(1, 3, 2, 6));
    c.due("testGrowth(0, 3, 1, 6)", false, () -> x.testGrowth(0, 3, 1, 6));
    c.due("testGrowth(0, 3, 0, 5)", false, () -> x.testGrowth(0, 3, 0, 5));
    c.due("testGrowth(0, 2, 0, 6)", false, () -> x.testGrowth(0, 2, 0, 6));
    c.due("testLeaf(0, 1, 0, 1) by it", false, () -> x.testLeaf(0, 1, 0, 1));
    c.due("testGrowth(0, 3, 0, 6) again", true, () -> x.testGrowth(0, 3, 0, 6));
    c.due("testGrowth(0, 6, 0, 6) by it", false, () -> x.testGrowth(0, 6, 0, 6));
    c.due("testGrowth(0, 3, 0, 6) once more", true, () -> x.testGrowth(0, 3, 0, 6));
    x.change(0, x.sumAt(0) == 0 ? 1 : 0);
    c.due("testGrowth(0, 3, 0, 6) changed", false, () -> x.testGrowth(0, 3, 0, 6));
    x.loadGrowth(1, 5, 6);
    c.due("testGrowth(0, 5, 1, 6)", false, () -> x.testGrowth(0, 5, 1, 6));
    c.due("testGrowth(1, 5, 1, 6)", true, () -> x.testGrowth(1, 5, 1, 6));
    x.loadGrowth(1, 4, 6);
    c.due("testGrowth(0, 4, 1, 6)", true, () -> x.testGrowth(0, 4, 1, 6));
    x.change(1, 0);
    c.due("testGrowth(0, 4, 1, 6) with a sum more", false, () -> x.testGrowth(0, 4, 1, 6));
    x.loadGrowth(0, 6, 6);
    c.due("testGrowth(0, 6, 2, 6)", true, () -> x.testGrowth(0, 6, 2, 6));
    c.due("testGrowth(0, 6, 1, 6)", false, () -> x.testGrowth(0, 6, 1, 6));
    c.due("testGrowth(0, 1, 1, 1)", true, () -> x.testGrowth(0, 1, 1, 1));
    c.due("testGrowth(0, 1, 1, 2)", false, () -> x.testGrowth(0, 1, 1, 2));
    x.change(0, 0);
    c.due("testGrowth(0, 6, 2, 6) with a sum", false, () -> x.testGrowth(0, 6, 2, 6));
    growthRanges(c, x);
    oldRootCounts(c);
    allGrowths(c);
  }

  private static void growthRanges(Check c, TreeheadGallery x) {
    x.append(1, 5);
    int[][] views = {{3, 0}, {0, 3}, {-1, 0}, {0, -1}, {LOW, HIGH}};
    for (int[] v : views) {
      c.outOfBounds(
          "testGrowth(" + v[0] + ", 0, " + v[1] + ", 0)", () -> x.testGrowth(v[0], 0, v[1], 0));
    }
    int[][] wrong = {{0, 6}, {-1, 6}, {7, 7}, {6, 5}, {1, 0}, {1, 8}, {LOW, 6}, {HIGH, HIGH}};
    for (int[] w : wrong) {
      c.badArgument(
          "testGrowth(0, " + w[0] + ", 1, " + w[1] + ")", () -> x.testGrowth(0, w[0], 1, w[1]));
    }
    c.due("testGrowth(1, 6, 1, 7)", false, () -> x.testGrowth(1, 6, 1, 7));
    c.badArgument("testGrowth(1, 1, 0, 7)", () -> x.testGrowth(1, 1, 0, 7));
  }

  /** The new root alone is right: the proof is of the new view, the old view is another one. */
  private static void oldRootCounts(Check c) {
    TreeheadGallery x = fresh();
    x.appendRow(0, 1, 3);
    x.fork(0, 0);
    x.appendRow(1, 50, 6);
    x.loadGrowth(1, 3, 6);
    c.due("testGrowth(0, 3, 1, 6) of another row", false, () -> x.testGrowth(0, 3, 1, 6));
    c.due("testGrowth(1, 3, 1, 6)", true, () -> x.testGrowth(1, 3, 1, 6));
  }

  private static void allGrowths(Check c) {
    for (int size = 1; size <= 100; size++) {
      TreeheadGallery x = grown(100);
      for (int from = 1; from <= size; from++) {
        int n = size;
        int m = from;
        x.loadGrowth(0, from, size);
        c.due("testGrowth from " + m + " to " + n, true, () -> x.testGrowth(0, m, 0, n));
        x.change(x.sums(), 0);
        c.due("testGrowth from " + m + " to " + n, false, () -> x.testGrowth(0, m, 0, n));
      }
    }
  }

  static void promise19(Check c) {
    TreeheadGallery x = fresh();
    c.due("testKey(0, -1) without a proof", false, () -> x.testKey(0, -1));
    x.loadKey(5);
    c.due("testKey(5, -1)", true, () -> x.testKey(5, -1));
    c.due("testKey(6, -1)", true, () -> x.testKey(6, -1));
    c.due("testKey(5, 0)", false, () -> x.testKey(5, 0));
    x.put(5, 0);
    c.due("testKey(5, 0) put since", true, () -> x.testKey(5, 0));
    c.due("testKey(5, -1) put since", false, () -> x.testKey(5, -1));
    c.due("testKey(4, 0)", false, () -> x.testKey(4, 0));
    x.put(63, 65535);
    c.due("testKey(5, 0) of an old map", false, () -> x.testKey(5, 0));
    x.loadKey(63);
    c.due("testKey(63, 65535)", true, () -> x.testKey(63, 65535));
    c.due("testKey(63, 65534)", false, () -> x.testKey(63, 65534));
    x.loadKey(62);
    c.due("testKey(62, -1)", true, () -> x.testKey(62, -1));
    x.change(6, 0);
    c.due("testKey(62, -1) with a sum more", false, () -> x.testKey(62, -1));
    x.shorten();
    x.shorten();
    c.due("testKey(62, -1) with one less", false, () -> x.testKey(62, -1));
    x.loadKey(62);
    x.change(0, 3);
    c.due("testKey(62, -1) changed", false, () -> x.testKey(62, -1));
    for (int key : new int[] {-1, 64, LOW, HIGH}) {
      c.badArgument("testKey(" + key + ", 0)", () -> x.testKey(key, 0));
    }
    for (int value : new int[] {-2, 65536, LOW, HIGH}) {
      c.badArgument("testKey(0, " + value + ")", () -> x.testKey(0, value));
    }
    TreeheadGallery all = fresh();
    for (int key = 0; key < 64; key += 3) {
      all.put(key, 900 * key);
    }
    for (int key = 0; key < 64; key++) {
      int at = key;
      int value = key % 3 == 0 ? 900 * key : -1;
      all.loadKey(key);
      c.due("testKey(" + key + ", " + value + ")", true, () -> all.testKey(at, value));
      c.due("testKey(" + key + ", 1)", false, () -> all.testKey(at, 1));
    }
  }

  static void promise20(Check c) {
    TreeheadGallery x = fresh();
    c.due("put(0, 0)", -1, () -> x.put(0, 0));
    c.due("put(0, 65535)", 0, () -> x.put(0, 65535));
    c.due("put(0, 65535) again", 65535, () -> x.put(0, 65535));
    c.due("put(63, 8)", -1, () -> x.put(63, 8));
    c.due("get(63)", 8, () -> x.get(63));
    int root = x.mapRoot();
    for (int key : new int[] {-1, 64, LOW, HIGH}) {
      c.badArgument("put(" + key + ", 0)", () -> x.put(key, 0));
    }
    for (int value : new int[] {-1, 65536, LOW, HIGH}) {
      c.badArgument("put(0, " + value + ")", () -> x.put(0, value));
    }
    c.due("get(0)", 65535, () -> x.get(0));
    c.due("mapRoot()", root, x::mapRoot);
  }

  static void promise21(Check c) {
    TreeheadGallery x = fresh();
    c.due("remove(0)", -1, () -> x.remove(0));
    x.put(0, 0);
    x.put(63, 65535);
    c.due("remove(0)", 0, () -> x.remove(0));
    c.due("remove(0) again", -1, () -> x.remove(0));
    c.due("get(63)", 65535, () -> x.get(63));
    c.due("mapRoot()", 683587, x::mapRoot);
    for (int key : new int[] {-1, 64, LOW, HIGH}) {
      c.badArgument("remove(" + key + ")", () -> x.remove(key));
    }
    c.due("remove(63)", 65535, () -> x.remove(63));
    c.due("get(63)", -1, () -> x.get(63));
    c.due("mapRoot()", 0, x::mapRoot);
  }

  static void promise22(Check c) {
    TreeheadGallery x = fresh();
    c.due("get(7)", -1, () -> x.get(7));
    x.put(7, 0);
    x.put(8, 65535);
    c.due("get(7)", 0, () -> x.get(7));
    c.due("get(8)", 65535, () -> x.get(8));
    c.due("get(6)", -1, () -> x.get(6));
    x.put(7, 12);
    c.due("get(7)", 12, () -> x.get(7));
    for (int key : new int[] {-1, 64, LOW, HIGH}) {
      c.badArgument("get(" + key + ")", () -> x.get(key));
    }
  }

  static void promise23(Check c) {
    TreeheadGallery x = fresh();
    c.due("mapRoot()", 0, x::mapRoot);
    x.put(5, 0);
    c.due("mapRoot() of 5", 565046, x::mapRoot);
    x.remove(5);
    x.put(0, 65535);
    c.due("mapRoot() of 0", 262791, x::mapRoot);
    x.put(0, 1);
    x.put(1, 2);
    c.due("mapRoot() of 0 and 1", 993051, x::mapRoot);
    TreeheadGallery y = fresh();
    for (int key = 63; key >= 0; key--) {
      y.put(key, key);
    }
    c.due("mapRoot() of all", 394928, y::mapRoot);
    TreeheadGallery z = fresh();
    z.put(0, ZERO_LEFT);
    z.put(1, ZERO_RIGHT);
    c.due("mapRoot() where a mix is 0", 0, z::mapRoot);
    z.loadKey(1);
    c.due("testKey where a mix is 0", true, () -> z.testKey(1, ZERO_RIGHT));
    z.loadKey(2);
    c.due("testKey beside a mix that is 0", true, () -> z.testKey(2, -1));
  }

  static void promise24(Check c) {
    TreeheadGallery x = forked();
    c.due("show(0, 0)", true, () -> x.show(0, 0));
    keeps(c, x, 0, 6, x.root(0, 6));
    c.due("show(0, 2) of the same leaves", true, () -> x.show(0, 2));
    c.due("isAlarmed(0)", false, () -> x.isAlarmed(0));
    c.due("show(0, 1) of other leaves", false, () -> x.show(0, 1));
    c.due("isAlarmed(0)", true, () -> x.isAlarmed(0));
    keeps(c, x, 0, 6, x.root(0, 6));
    x.append(2, 7);
    c.due("show(0, 2) to an alarmed one", true, () -> x.show(0, 2));
    c.due("isAlarmed(0)", true, () -> x.isAlarmed(0));
    keeps(c, x, 0, 7, x.root(2, 7));
    c.due("show(0, 0) of a lesser size", false, () -> x.show(0, 0));
    keeps(c, x, 0, 7, x.root(2, 7));
    c.due("show(3, 2)", true, () -> x.show(3, 2));
    c.due("show(3, 0) of a lesser size", false, () -> x.show(3, 0));
    c.due("isAlarmed(3)", true, () -> x.isAlarmed(3));
    c.due("isAlarmed(1)", false, () -> x.isAlarmed(1));
    int[][] wrong = {{4, 0}, {-1, 0}, {0, 3}, {0, -1}, {LOW, LOW}, {HIGH, 0}, {0, HIGH}};
    for (int[] w : wrong) {
      c.outOfBounds("show(" + w[0] + ", " + w[1] + ")", () -> x.show(w[0], w[1]));
    }
    TreeheadGallery none = fresh();
    c.outOfBounds("show(0, 1)", () -> none.show(0, 1));
    keeps(c, none, 0, -1, -1);
    c.due("show(0, 0) without leaves", true, () -> none.show(0, 0));
    keeps(c, none, 0, 0, 0);
    none.fork(0, 0);
    none.append(1, 3);
    c.due("show(0, 1) upon a size of 0", true, () -> none.show(0, 1));
    c.due("show(0, 0) of size 0 upon 1", false, () -> none.show(0, 0));
  }

  static void promise25(Check c) {
    TreeheadGallery x = forked();
    c.due("gossip(0, 1) without heads", true, () -> x.gossip(0, 1));
    x.show(0, 0);
    c.due("gossip(0, 1) with one head", true, () -> x.gossip(0, 1));
    c.due("gossip(1, 0) with one head", true, () -> x.gossip(1, 0));
    c.due("gossip(0, 0)", true, () -> x.gossip(0, 0));
    x.show(1, 2);
    c.due("gossip(0, 1) of the same leaves", true, () -> x.gossip(0, 1));
    c.due("isAlarmed(0)", false, () -> x.isAlarmed(0));
    x.show(2, 1);
    c.due("gossip(2, 0) of other leaves", false, () -> x.gossip(2, 0));
    c.due("isAlarmed(0)", true, () -> x.isAlarmed(0));
    c.due("isAlarmed(1)", false, () -> x.isAlarmed(1));
    c.due("isAlarmed(2)", true, () -> x.isAlarmed(2));
    c.due("gossip(0, 1) by an alarmed one", true, () -> x.gossip(0, 1));
    c.due("isAlarmed(1)", false, () -> x.isAlarmed(1));
    keeps(c, x, 0, 6, x.root(0, 6));
    int[][] wrong = {{4, 0}, {-1, 0}, {0, 4}, {0, -1}, {4, 4}, {-1, -1}, {LOW, HIGH}, {HIGH, 0}};
    for (int[] w : wrong) {
      c.outOfBounds("gossip(" + w[0] + ", " + w[1] + ")", () -> x.gossip(w[0], w[1]));
    }
    gossipOfSizes(c);
  }

  private static void gossipOfSizes(Check c) {
    TreeheadGallery x = fresh();
    x.show(3, 0);
    x.appendRow(0, 1, 2);
    x.show(0, 0);
    x.appendRow(0, 3, 3);
    x.show(1, 0);
    x.fork(0, 1);
    x.appendRow(1, 70, 5);
    x.show(2, 1);
    c.due("gossip(0, 1), 2 to 5", true, () -> x.gossip(0, 1));
    c.due("gossip(1, 0), 5 to 2", true, () -> x.gossip(1, 0));
    c.due("gossip(3, 2), 0 to 6", true, () -> x.gossip(3, 2));
    c.due("gossip(2, 3), 6 to 0", true, () -> x.gossip(2, 3));
    c.due("isAlarmed(3)", false, () -> x.isAlarmed(3));
    c.due("gossip(0, 2), 2 to 6 of another view", false, () -> x.gossip(0, 2));
    c.due("isAlarmed(1)", false, () -> x.isAlarmed(1));
    c.due("gossip(2, 1), 6 to 5 of another view", false, () -> x.gossip(2, 1));
    c.due("isAlarmed(1)", true, () -> x.isAlarmed(1));
  }

  static void promise26(Check c) {
    TreeheadGallery x = forked();
    x.show(0, 0);
    x.follow(0, 5);
    c.due("counted(0) of what was kept before", 0, () -> x.counted(0));
    x.append(0, 5);
    x.show(0, 0);
    c.due("counted(0)", 1, () -> x.counted(0));
    x.follow(0, 5);
    c.due("counted(0) after the same value again", 0, () -> x.counted(0));
    x.follow(0, 0);
    x.follow(3, 65535);
    for (int value : new int[] {-1, 65536, LOW, HIGH}) {
      c.badArgument("follow(0, " + value + ")", () -> followed(x, 0, value));
    }
    for (int watcher : new int[] {-1, 4, LOW, HIGH}) {
      c.outOfBounds("follow(" + watcher + ", -1)", () -> followed(x, watcher, -1));
    }
    x.append(0, 0);
    x.append(0, 65535);
    x.show(0, 0);
    x.show(3, 0);
    c.due("counted(0) of 0", 1, () -> x.counted(0));
    c.due("counted(3) of 65535", 1, () -> x.counted(3));
    c.badArgument("follow(3, -1)", () -> followed(x, 3, -1));
    c.due("counted(3) after a wrong value", 1, () -> x.counted(3));
  }

  private static Object followed(TreeheadGallery x, int watcher, int value) {
    x.follow(watcher, value);
    return "nothing";
  }

  private static void askedOfAWatcher(Check c, String name, IntFunction<Object> ask) {
    for (int watcher : new int[] {-1, 4, 5, LOW, HIGH}) {
      c.outOfBounds(name + "(" + watcher + ")", () -> ask.apply(watcher));
    }
  }

  static void promise27(Check c) {
    TreeheadGallery x = forked();
    for (int watcher = 0; watcher < 4; watcher++) {
      int at = watcher;
      c.due("isAlarmed(" + watcher + ")", false, () -> x.isAlarmed(at));
      x.show(watcher, 1);
      c.due("isAlarmed(" + watcher + ")", false, () -> x.isAlarmed(at));
      x.show(watcher, 0);
      c.due("isAlarmed(" + watcher + ")", true, () -> x.isAlarmed(at));
      x.show(watcher, 1);
      c.due("isAlarmed(" + watcher + ") stays", true, () -> x.isAlarmed(at));
    }
    askedOfAWatcher(c, "isAlarmed", x::isAlarmed);
  }

  static void promise28(Check c) {
    TreeheadGallery x = grown(100);
    x.fork(0, 0);
    c.due("keptSize(0)", -1, () -> x.keptSize(0));
    x.show(0, 1);
    c.due("keptSize(0)", 0, () -> x.keptSize(0));
    x.show(0, 0);
    c.due("keptSize(0)", 100, () -> x.keptSize(0));
    c.due("keptSize(1)", -1, () -> x.keptSize(1));
    x.append(1, 4);
    x.show(1, 1);
    x.append(1, 5);
    c.due("keptSize(1) of the head that was shown", 1, () -> x.keptSize(1));
    askedOfAWatcher(c, "keptSize", x::keptSize);
  }

  static void promise29(Check c) {
    TreeheadGallery x = grown(5);
    c.due("keptRoot(3)", -1, () -> x.keptRoot(3));
    x.show(3, 0);
    c.due("keptRoot(3)", 924189, () -> x.keptRoot(3));
    x.appendRow(0, 15, 3);
    c.due("keptRoot(3) of the head that was shown", 924189, () -> x.keptRoot(3));
    x.show(3, 0);
    c.due("keptRoot(3)", 826660, () -> x.keptRoot(3));
    c.due("keptRoot(0)", -1, () -> x.keptRoot(0));
    askedOfAWatcher(c, "keptRoot", x::keptRoot);
  }

  static void promise30(Check c) {
    TreeheadGallery x = fresh();
    x.append(0, 8);
    x.append(0, 9);
    x.append(0, 8);
    x.follow(0, 8);
    x.follow(1, 9);
    c.due("counted(0)", 0, () -> x.counted(0));
    x.show(0, 0);
    x.show(1, 0);
    x.show(2, 0);
    c.due("counted(0)", 2, () -> x.counted(0));
    c.due("counted(1)", 1, () -> x.counted(1));
    c.due("counted(2) without a value", 0, () -> x.counted(2));
    x.fork(0, 2);
    x.append(1, 8);
    x.append(1, 8);
    x.append(0, 7);
    x.show(0, 0);
    c.due("counted(0) without new ones", 2, () -> x.counted(0));
    x.append(1, 8);
    c.due("show(0, 1)", false, () -> x.show(0, 1));
    c.due("counted(0) when not taken", 2, () -> x.counted(0));
    x.fork(0, 4);
    x.append(2, 8);
    c.due("show(0, 2)", true, () -> x.show(0, 2));
    c.due("counted(0) of a fork's new leaf", 3, () -> x.counted(0));
    x.show(3, 1);
    x.follow(3, 8);
    x.show(3, 1);
    c.due("counted(3) when shown the same head", 0, () -> x.counted(3));
    x.append(1, 8);
    x.show(3, 1);
    c.due("counted(3)", 1, () -> x.counted(3));
    TreeheadGallery zero = fresh();
    zero.append(0, 0);
    zero.show(0, 0);
    c.due("counted(0) without a value, of 0", 0, () -> zero.counted(0));
    TreeheadGallery all = fresh();
    for (int leaf = 0; leaf < 100; leaf++) {
      all.append(0, 65535);
    }
    all.follow(0, 65535);
    all.show(0, 0);
    c.due("counted(0) of 100", 100, () -> all.counted(0));
    askedOfAWatcher(c, "counted", x::counted);
  }

  /** Values of keys 0 and 1 whose sums have the mix 0. */
  private static final int ZERO_LEFT = 18;

  private static final int ZERO_RIGHT = 24428;
}
