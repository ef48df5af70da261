/**
 * A register to which leaves are only ever added, as a tree of sums: its roots, proofs that a leaf
 * is in it and that it has only grown, a map from keys to values with proofs of absence, views that
 * were forked, and watchers who are shown heads and exchange them.
 *
 * All rows are made with the objects that hold them and used again: no call but fork makes any.
 */
public final class TreeheadGallery {
  public static final int NONE = -1;

  private static final int MOST_VIEWS = 3;
  private static final int MOST_LEAVES = 100;
  private static final int MOST_APPENDED = 40;
  private static final int MOST_VALUE = 65535;
  private static final int MOST_SUM = 1000002;
  private static final int MOST_SUMS = 12;
  private static final int WATCHERS = 4;
  private static final int KEYS = 64;
  private static final int KEY_LEVELS = 6;

  /** The least power of two that is not below MOST_LEAVES is 2 to the power of this. */
  private static final int LEAF_LEVELS = 7;

  private final View[] views = new View[MOST_VIEWS];
  private final Watcher[] watchers = new Watcher[WATCHERS];
  private final Desk desk = new Desk();
  private final KeyMap map = new KeyMap();
  private int viewCount = 1;

  public TreeheadGallery() {
    views[0] = new View();
    for (int i = 0; i < watchers.length; i++) {
      watchers[i] = new Watcher();
    }
  }

  // ---- views

  public int append(int view, int value)
      throws IndexOutOfBoundsException, IllegalArgumentException, IllegalStateException {
    View grown = viewNumbered(view);
    requireRange(value, 0, MOST_VALUE);
    requireRoom(grown, 1);
    grown.add(value);
    return grown.leaves - 1;
  }

  public int appendRow(int view, int first, int many)
      throws IndexOutOfBoundsException, IllegalArgumentException, IllegalStateException {
    View grown = viewNumbered(view);
    requireRange(many, 1, MOST_APPENDED);
    requireRange(first, 0, MOST_VALUE - many + 1);
    requireRoom(grown, many);
    for (int i = 0; i < many; i++) {
      grown.add(first + i);
    }
    return grown.leaves;
  }

  public int fork(int view, int size)
      throws IndexOutOfBoundsException, IllegalArgumentException, IllegalStateException {
    View forked = viewNumbered(view);
    requireRange(size, 0, forked.leaves);
    if (viewCount < 0 || viewCount >= views.length) {
      throw new IllegalStateException("there are as many views as there can be");
    }
    View made = new View();
    for (int i = 0; i < size; i++) {
      made.add(forked.valueAt(i));
    }
    views[viewCount] = made;
    viewCount++;
    return viewCount - 1;
  }

  public int views() {
    return viewCount;
  }

  public int size(int view) throws IndexOutOfBoundsException {
    return viewNumbered(view).leaves;
  }

  public int leaf(int view, int leaf) throws IndexOutOfBoundsException {
    View asked = viewNumbered(view);
    if (leaf < 0 || leaf >= asked.leaves) {
      throw new IndexOutOfBoundsException("no such leaf");
    }
    return asked.valueAt(leaf);
  }

  public int root(int view, int size) throws IndexOutOfBoundsException, IllegalArgumentException {
    View asked = viewNumbered(view);
    requireRange(size, 0, asked.leaves);
    return asked.rootAt(size);
  }

  public int rootAnew(int view, int size)
      throws IndexOutOfBoundsException, IllegalArgumentException {
    View asked = viewNumbered(view);
    requireRange(size, 0, asked.leaves);
    return asked.rootFromValues(size);
  }

  // ---- the desk

  public int loadLeaf(int view, int leaf, int size)
      throws IndexOutOfBoundsException, IllegalArgumentException {
    View proved = viewNumbered(view);
    requireRange(size, 1, proved.leaves);
    requireRange(leaf, 0, size - 1);
    desk.takeLeafProof(proved, leaf, size);
    return desk.count;
  }

  public int loadGrowth(int view, int from, int size)
      throws IndexOutOfBoundsException, IllegalArgumentException {
    View proved = viewNumbered(view);
    requireRange(size, 1, proved.leaves);
    requireRange(from, 1, size);
    desk.takeGrowthProof(proved, from, size);
    return desk.count;
  }

  public int loadKey(int key) throws IllegalArgumentException {
    requireRange(key, 0, KEYS - 1);
    desk.takeKeyProof(map, key);
    return desk.count;
  }

  public int change(int place, int sum)
      throws IndexOutOfBoundsException, IllegalArgumentException, IllegalStateException {
    if (place < 0 || place > desk.count) {
      throw new IndexOutOfBoundsException("no such place in the proof, nor right behind it");
    }
    requireRange(sum, 0, MOST_SUM);
    if (place >= MOST_SUMS) {
      throw new IllegalStateException("the proof has as many sums as it can have");
    }
    desk.write(place, sum);
    return desk.count;
  }

  public int shorten() throws IllegalStateException {
    if (desk.count < 1) {
      throw new IllegalStateException("the proof has no sum");
    }
    return desk.dropLast();
  }

  public int sums() {
    return desk.count;
  }

  public int sumAt(int place) throws IndexOutOfBoundsException {
    if (place < 0 || place >= desk.count) {
      throw new IndexOutOfBoundsException("no such place in the proof");
    }
    return desk.read(place);
  }

  public boolean testLeaf(int view, int value, int leaf, int size)
      throws IndexOutOfBoundsException, IllegalArgumentException {
    View tested = viewNumbered(view);
    requireRange(value, 0, MOST_VALUE);
    requireRange(size, 1, tested.leaves);
    requireRange(leaf, 0, size - 1);
    return desk.provesLeaf(value, leaf, size, tested.rootAt(size));
  }

  public boolean testGrowth(int old, int from, int view, int size)
      throws IndexOutOfBoundsException, IllegalArgumentException {
    View first = viewNumbered(old);
    View grown = viewNumbered(view);
    requireRange(size, 1, grown.leaves);
    requireRange(from, 1, size);
    requireRange(from, 1, first.leaves);
    return desk.provesGrowth(from, first.rootAt(from), size, grown.rootAt(size));
  }

  public boolean testKey(int key, int value) throws IllegalArgumentException {
    requireRange(key, 0, KEYS - 1);
    if (value != NONE) {
      requireRange(value, 0, MOST_VALUE);
    }
    return desk.provesKey(key, value, map.rootSum());
  }

  // ---- the map

  public int put(int key, int value) throws IllegalArgumentException {
    requireRange(key, 0, KEYS - 1);
    requireRange(value, 0, MOST_VALUE);
    return map.replace(key, value);
  }

  public int remove(int key) throws IllegalArgumentException {
    requireRange(key, 0, KEYS - 1);
    return map.replace(key, NONE);
  }

  public int get(int key) throws IllegalArgumentException {
    requireRange(key, 0, KEYS - 1);
    return map.valueAt(key);
  }

  public int mapRoot() {
    return map.rootSum();
  }

  // ---- watchers

  public boolean show(int watcher, int view) throws IndexOutOfBoundsException {
    Watcher shown = watcherNumbered(watcher);
    return shown.look(viewNumbered(view));
  }

  public boolean gossip(int one, int other) throws IndexOutOfBoundsException {
    Watcher first = watcherNumbered(one);
    Watcher second = watcherNumbered(other);
    boolean fit = one == other || first.fits(second);
    if (!fit) {
      first.alarmed = true;
      second.alarmed = true;
    }
    return fit;
  }

  public void follow(int watcher, int value)
      throws IndexOutOfBoundsException, IllegalArgumentException {
    Watcher follower = watcherNumbered(watcher);
    requireRange(value, 0, MOST_VALUE);
    follower.followed = value;
    follower.found = 0;
  }

  public boolean isAlarmed(int watcher) throws IndexOutOfBoundsException {
    return watcherNumbered(watcher).alarmed;
  }

  public int keptSize(int watcher) throws IndexOutOfBoundsException {
    return watcherNumbered(watcher).size;
  }

  public int keptRoot(int watcher) throws IndexOutOfBoundsException {
    return watcherNumbered(watcher).root;
  }

  public int counted(int watcher) throws IndexOutOfBoundsException {
    return watcherNumbered(watcher).found;
  }

  // ---- what the calls ask of their arguments

  private View viewNumbered(int view) throws IndexOutOfBoundsException {
    View found = view >= 0 && view < views.length ? views[view] : null;
    if (found == null) {
      throw new IndexOutOfBoundsException("no such view");
    }
    return found;
  }

  private Watcher watcherNumbered(int watcher) throws IndexOutOfBoundsException {
    Watcher found = watcher >= 0 && watcher < watchers.length ? watchers[watcher] : null;
    if (found == null) {
      throw new IndexOutOfBoundsException("no such watcher");
    }
    return found;
  }

  private static void requireRange(int number, int least, int most)
      throws IllegalArgumentException {
    if (number < least || number > most) {
      throw new IllegalArgumentException("a number is out of range");
    }
  }

  private static void requireRoom(View view, int many) throws IllegalStateException {
    if (many > MOST_LEAVES - view.leaves) {
      throw new IllegalStateException("the view would have too many leaves");
    }
  }

  // ---- sums

  private static int leafSum(int value) {
    return (int) ((40503L * value + 12345L) % (MOST_SUM + 1L));
  }

  private static int mix(int left, int right) {
    return (int) ((7919L * left + 31337L * right + 11L) % (MOST_SUM + 1L));
  }

  private static int keySum(int value) {
    return value == NONE ? 0 : leafSum(value + 1);
  }

  /** In the map, unlike in a view, two sums of 0 have 0 above them, whatever they stand for. */
  private static int mapMix(int left, int right) {
    return left == 0 && right == 0 ? 0 : mix(left, right);
  }

  /** The leaves of a view, with the sums of all its whole blocks. */
  private static final class View {
    private static final int WIDTH = 1 << LEAF_LEVELS;

    private int leaves;
    private final int[] values = new int[MOST_LEAVES];

    /**
     * A heap: the sum of leaf i is at WIDTH + i, and the one at p is above those at 2 * p and
     * 2 * p + 1. Leaves never change, so a place is written once, when its block is whole.
     */
    private final int[] blocks = new int[2 * WIDTH];

    void add(int value) {
      if (leaves < 0 || leaves >= values.length) {
        return;
      }
      int place = WIDTH + leaves;
      values[leaves] = value;
      blocks[place] = leafSum(value);
      leaves++;
      // A block is whole as soon as its right half is, which stands at an odd place.
      for (int level = 0; level < LEAF_LEVELS && (place & 1) == 1; level++) {
        blocks[place >> 1] = mix(blocks[place - 1], blocks[place]);
        place = place >> 1;
      }
    }

    int valueAt(int leaf) {
      return leaf >= 0 && leaf < leaves && leaf < values.length ? values[leaf] : NONE;
    }

    int rootAt(int size) {
      return rootOfRow(0, size);
    }

    /**
     * The root of a row of leaves as the split by powers of two makes it: the row is one whole
     * block for each bit of its length, the greatest first, so it is mixed from its end.
     */
    int rootOfRow(int from, int length) {
      if (from < 0 || length < 0 || from > leaves || length > leaves - from) {
        return 0;
      }
      int root = 0;
      int end = from + length;
      for (int level = 0; level < LEAF_LEVELS; level++) {
        if ((length >> level & 1) == 1) {
          boolean isLast = end == from + length;
          end -= 1 << level;
          int block = blockAt((WIDTH + end) >> level);
          root = isLast ? block : mix(block, root);
        }
      }
      return root;
    }

    private int blockAt(int place) {
      return place >= 0 && place < blocks.length ? blocks[place] : 0;
    }

    int rootFromValues(int size) {
      return size < 1 || size > leaves ? 0 : rootAnewOf(values, 0, size, 0);
    }

    private static int rootAnewOf(int[] values, int from, int length, int depth) {
      if (depth > LEAF_LEVELS || from < 0 || from >= values.length) {
        return 0;
      }
      if (length <= 1) {
        return leafSum(values[from]);
      }
      int half = greatestPowerBelow(length);
      return mix(
          rootAnewOf(values, from, half, depth + 1),
          rootAnewOf(values, from + half, length - half, depth + 1));
    }

    static int greatestPowerBelow(int length) {
      int power = 1;
      for (int level = 0; level < LEAF_LEVELS && 2 * power < length; level++) {
        power = 2 * power;
      }
      return power;
    }
  }

  /**
   * A way down the tree of a row of leaves, with the rows that are left beside it: the roots of
   * these are the sums of a proof, the last row's first. It knows numbers alone, no sums, so
   * that loading and testing go by the same way.
   */
  private static final class Way {
    private int rows;
    private final int[] froms = new int[MOST_SUMS];
    private final int[] lengths = new int[MOST_SUMS];
    private final boolean[] firsts = new boolean[MOST_SUMS];

    // The row to which the way has come, and the number in it of the leaf to which it leads.
    private int from;
    private int length;
    private int leaf;

    void leadToLeaf(int target, int size) {
      begin(target, size);
      for (int step = 0; step < MOST_SUMS && length > 1; step++) {
        goDown();
      }
    }

    /** Leads to the greatest row that ends with the old leaves. */
    void leadToGrowth(int old, int size) {
      begin(old - 1, size);
      for (int step = 0; step < MOST_SUMS && leaf < length - 1; step++) {
        goDown();
      }
      if (!endsInTrust()) {
        leaveBeside(from, length, false);
      }
    }

    /** Trust goes when the way takes the others: just then it has left the first leaf. */
    boolean endsInTrust() {
      return from == 0;
    }

    private void begin(int target, int size) {
      rows = 0;
      from = 0;
      length = size;
      leaf = target;
    }

    private void goDown() {
      int half = View.greatestPowerBelow(length);
      if (leaf < half) {
        leaveBeside(from + half, length - half, false);
        length = half;
      } else {
        leaveBeside(from, half, true);
        from += half;
        length -= half;
        leaf -= half;
      }
    }

    private void leaveBeside(int rowFrom, int rowLength, boolean isFirst) {
      if (rows < 0 || rows >= MOST_SUMS) {
        return;
      }
      froms[rows] = rowFrom;
      lengths[rows] = rowLength;
      firsts[rows] = isFirst;
      rows++;
    }

    int rootOfPlace(View view, int place) {
      int row = rows - 1 - place;
      return row >= 0 && row < MOST_SUMS ? view.rootOfRow(froms[row], lengths[row]) : 0;
    }

    /** Whether the row at a place of the proof is of the first leaves, left of the way. */
    boolean isFirstAt(int place) {
      int row = rows - 1 - place;
      return row >= 0 && row < MOST_SUMS && firsts[row];
    }
  }

  /** The proof that is loaded, changed and tested. */
  private static final class Desk {
    private int count;
    private final int[] sums = new int[MOST_SUMS];
    private final Way way = new Way();

    void takeLeafProof(View view, int leaf, int size) {
      way.leadToLeaf(leaf, size);
      takeRoots(view);
    }

    void takeGrowthProof(View view, int old, int size) {
      way.leadToGrowth(old, size);
      takeRoots(view);
    }

    private void takeRoots(View view) {
      count = way.rows;
      for (int place = 0; place < count && place < sums.length; place++) {
        sums[place] = way.rootOfPlace(view, place);
      }
    }

    void takeKeyProof(KeyMap map, int key) {
      count = KEY_LEVELS;
      for (int level = 0; level < KEY_LEVELS && level < sums.length; level++) {
        sums[level] = map.sumBeside(key, level);
      }
    }

    int read(int place) {
      return place >= 0 && place < count && place < sums.length ? sums[place] : 0;
    }

    void write(int place, int sum) {
      if (place < 0 || place > count || place >= sums.length) {
        return;
      }
      sums[place] = sum;
      count = place == count ? count + 1 : count;
    }

    int dropLast() {
      int last = read(count - 1);
      count = count > 0 ? count - 1 : 0;
      return last;
    }

    boolean provesLeaf(int value, int leaf, int size, int root) {
      way.leadToLeaf(leaf, size);
      if (count != way.rows) {
        return false;
      }
      int reached = leafSum(value);
      for (int place = 0; place < count; place++) {
        int beside = read(place);
        reached = way.isFirstAt(place) ? mix(beside, reached) : mix(reached, beside);
      }
      return reached == root;
    }

    boolean provesGrowth(int old, int oldRoot, int size, int root) {
      way.leadToGrowth(old, size);
      if (count != way.rows) {
        return false;
      }
      boolean trusts = way.endsInTrust();
      int reachedOld = trusts ? oldRoot : read(0);
      int reached = reachedOld;
      for (int place = trusts ? 0 : 1; place < count; place++) {
        int beside = read(place);
        boolean isFirst = way.isFirstAt(place);
        // What is behind the way came after the old leaves, so their root has no part in it.
        reachedOld = isFirst ? mix(beside, reachedOld) : reachedOld;
        reached = isFirst ? mix(beside, reached) : mix(reached, beside);
      }
      return reachedOld == oldRoot && reached == root;
    }

    boolean provesKey(int key, int value, int root) {
      if (count != KEY_LEVELS) {
        return false;
      }
      int reached = keySum(value);
      for (int level = 0; level < KEY_LEVELS; level++) {
        int beside = read(level);
        boolean isRight = (key >> level & 1) == 1;
        reached = isRight ? mapMix(beside, reached) : mapMix(reached, beside);
      }
      return reached == root;
    }
  }

  /** The values of the keys, with the sums of all places. */
  private static final class KeyMap {
    private final int[] values = new int[KEYS];

    /** A heap: the sum of a key is at KEYS + key, the one at p is above 2 * p and 2 * p + 1. */
    private final int[] sums = new int[2 * KEYS];

    KeyMap() {
      for (int key = 0; key < values.length; key++) {
        values[key] = NONE;
      }
    }

    int valueAt(int key) {
      return key >= 0 && key < values.length ? values[key] : NONE;
    }

    int replace(int key, int value) {
      if (key < 0 || key >= KEYS) {
        return NONE;
      }
      int had = values[key];
      values[key] = value;
      int place = KEYS + key;
      sums[place] = keySum(value);
      for (int level = 0; level < KEY_LEVELS; level++) {
        place = place >> 1;
        sums[place] = mapMix(sums[2 * place], sums[2 * place + 1]);
      }
      return had;
    }

    int sumBeside(int key, int level) {
      if (key < 0 || key >= KEYS || level < 0 || level >= KEY_LEVELS) {
        return 0;
      }
      return sums[(KEYS + key) >> level ^ 1];
    }

    int rootSum() {
      return sums[1];
    }
  }

  /** Keeps the head that was taken last, and counts the leaves with a value that is followed. */
  private static final class Watcher {
    private View kept;
    private int size = NONE;
    private int root = NONE;
    private boolean alarmed;
    private int followed = NONE;
    private int found;

    boolean look(View view) {
      boolean takes = kept == null || view.leaves >= size && view.rootAt(size) == root;
      if (takes) {
        countNew(view);
        kept = view;
        size = view.leaves;
        root = view.rootAt(size);
      } else {
        alarmed = true;
      }
      return takes;
    }

    private void countNew(View view) {
      if (followed == NONE) {
        return;
      }
      for (int leaf = kept == null ? 0 : size; leaf < view.leaves; leaf++) {
        if (view.valueAt(leaf) == followed) {
          found++;
        }
      }
    }

    boolean fits(Watcher other) {
      if (kept == null || other.kept == null) {
        return true;
      }
      return size >= other.size
          ? kept.rootAt(other.size) == other.root
          : other.kept.rootAt(size) == root;
    }
  }
}
