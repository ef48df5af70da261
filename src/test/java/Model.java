import java.util.ArrayList;
import java.util.List;

/**
 * The document's words, written down a second time as plainly as they stand: rows are lists, roots
 * and proofs are made by recursion, nothing is kept that can be worked out.
 */
public final class Model {
  static final int MODULUS = 1000003;

  private final List<List<Integer>> views = new ArrayList<>();
  private List<Integer> proof = new ArrayList<>();
  private final Integer[] map = new Integer[64];
  private final Watcher[] watchers = new Watcher[4];

  private static final class Watcher {
    List<Integer> view;
    int size = -1;
    int root = -1;
    boolean alarmed;
    int value = -1;
    int counted;
  }

  public Model() {
    views.add(new ArrayList<>());
    for (int i = 0; i < 4; i++) {
      watchers[i] = new Watcher();
    }
  }

  // ---- sums and roots

  static int leafSum(int v) {
    return (int) ((40503L * v + 12345) % MODULUS);
  }

  static int mix(int a, int b) {
    return (int) ((7919L * a + 31337L * b + 11) % MODULUS);
  }

  static int below(int n) {
    int k = 1;
    while (k * 2 < n) {
      k *= 2;
    }
    return k;
  }

  static int rootOf(List<Integer> row) {
    if (row.isEmpty()) {
      return 0;
    }
    if (row.size() == 1) {
      return leafSum(row.get(0));
    }
    int k = below(row.size());
    return mix(rootOf(row.subList(0, k)), rootOf(row.subList(k, row.size())));
  }

  static List<Integer> leafProof(List<Integer> row, int i) {
    if (row.size() == 1) {
      return new ArrayList<>();
    }
    int k = below(row.size());
    List<Integer> first = row.subList(0, k);
    List<Integer> others = row.subList(k, row.size());
    List<Integer> made = i < k ? leafProof(first, i) : leafProof(others, i - k);
    made.add(i < k ? rootOf(others) : rootOf(first));
    return made;
  }

  static List<Integer> part(List<Integer> row, int m, boolean trust) {
    List<Integer> made = new ArrayList<>();
    int n = row.size();
    if (m == n) {
      if (!trust) {
        made.add(rootOf(row));
      }
      return made;
    }
    int k = below(n);
    List<Integer> first = row.subList(0, k);
    List<Integer> others = row.subList(k, n);
    made = m <= k ? part(first, m, trust) : part(others, m - k, false);
    made.add(m <= k ? rootOf(others) : rootOf(first));
    return made;
  }

  /**
   * The root that a proof for leaf i of n works out, taking its sums from the end; null if it has
   * not as many as are due.
   */
  static Integer climb(List<Integer> proof, int i, int n, int value) {
    if (n == 1) {
      return proof.isEmpty() ? leafSum(value) : null;
    }
    if (proof.isEmpty()) {
      return null;
    }
    int last = proof.get(proof.size() - 1);
    List<Integer> inner = proof.subList(0, proof.size() - 1);
    int k = below(n);
    Integer under = i < k ? climb(inner, i, k, value) : climb(inner, i - k, n - k, value);
    if (under == null) {
      return null;
    }
    return i < k ? mix(under, last) : mix(last, under);
  }

  /**
   * The old root and the new one that a growth proof works out; null if it has not as many sums as
   * are due.
   */
  static int[] climbGrowth(List<Integer> proof, int m, int n, boolean trust, int oldRoot) {
    if (m == n) {
      if (proof.size() != (trust ? 0 : 1)) {
        return null;
      }
      int stands = trust ? oldRoot : proof.get(0);
      return new int[] {stands, stands};
    }
    if (proof.isEmpty()) {
      return null;
    }
    int last = proof.get(proof.size() - 1);
    List<Integer> inner = proof.subList(0, proof.size() - 1);
    int k = below(n);
    if (m <= k) {
      int[] both = climbGrowth(inner, m, k, trust, oldRoot);
      return both == null ? null : new int[] {both[0], mix(both[1], last)};
    }
    int[] both = climbGrowth(inner, m - k, n - k, false, oldRoot);
    return both == null ? null : new int[] {mix(last, both[0]), mix(last, both[1])};
  }

  /** The sum of a place of the map, level 0 being the keys. */
  int placeSum(int level, int place) {
    if (level == 0) {
      return map[place] == null ? 0 : leafSum(map[place] + 1);
    }
    return above(placeSum(level - 1, 2 * place), placeSum(level - 1, 2 * place + 1));
  }

  static int above(int a, int b) {
    return a == 0 && b == 0 ? 0 : mix(a, b);
  }

  // ---- what is asked of arguments

  private List<Integer> view(int view) {
    if (view < 0 || view >= views.size()) {
      throw new IndexOutOfBoundsException();
    }
    return views.get(view);
  }

  private Watcher watcher(int watcher) {
    if (watcher < 0 || watcher > 3) {
      throw new IndexOutOfBoundsException();
    }
    return watchers[watcher];
  }

  private static void need(boolean holds) {
    if (!holds) {
      throw new IllegalArgumentException();
    }
  }

  private static boolean isValue(int value) {
    return value >= 0 && value <= 65535;
  }

  private static List<Integer> firstOf(List<Integer> view, int size) {
    return view.subList(0, size);
  }

  // ---- the face

  public int append(int view, int value) {
    List<Integer> leaves = view(view);
    need(isValue(value));
    if (leaves.size() == 100) {
      throw new IllegalStateException();
    }
    leaves.add(value);
    return leaves.size() - 1;
  }

  public int appendRow(int view, int first, int many) {
    List<Integer> leaves = view(view);
    need(isValue(first) && many >= 1 && many <= 40 && isValue(first + many - 1));
    if (leaves.size() + many > 100) {
      throw new IllegalStateException();
    }
    for (int value = first; value < first + many; value++) {
      leaves.add(value);
    }
    return leaves.size();
  }

  public int fork(int view, int size) {
    List<Integer> leaves = view(view);
    need(size >= 0 && size <= leaves.size());
    if (views.size() == 3) {
      throw new IllegalStateException();
    }
    views.add(new ArrayList<>(firstOf(leaves, size)));
    return views.size() - 1;
  }

  public int views() {
    return views.size();
  }

  public int size(int view) {
    return view(view).size();
  }

  public int leaf(int view, int leaf) {
    List<Integer> leaves = view(view);
    if (leaf < 0 || leaf >= leaves.size()) {
      throw new IndexOutOfBoundsException();
    }
    return leaves.get(leaf);
  }

  public int root(int view, int size) {
    List<Integer> leaves = view(view);
    need(size >= 0 && size <= leaves.size());
    return rootOf(firstOf(leaves, size));
  }

  public int rootAnew(int view, int size) {
    return root(view, size);
  }

  public int loadLeaf(int view, int leaf, int size) {
    List<Integer> leaves = view(view);
    need(size >= 1 && size <= leaves.size() && leaf >= 0 && leaf < size);
    proof = leafProof(firstOf(leaves, size), leaf);
    return proof.size();
  }

  public int loadGrowth(int view, int from, int size) {
    List<Integer> leaves = view(view);
    need(size >= 1 && size <= leaves.size() && from >= 1 && from <= size);
    proof = part(firstOf(leaves, size), from, true);
    return proof.size();
  }

  public int loadKey(int key) {
    need(key >= 0 && key <= 63);
    proof = new ArrayList<>();
    for (int level = 0; level < 6; level++) {
      int place = key / (1 << level);
      proof.add(placeSum(level, place % 2 == 0 ? place + 1 : place - 1));
    }
    return proof.size();
  }

  public int change(int place, int sum) {
    if (place < 0 || place > proof.size()) {
      throw new IndexOutOfBoundsException();
    }
    need(sum >= 0 && sum <= 1000002);
    if (place == 12) {
      throw new IllegalStateException();
    }
    if (place == proof.size()) {
      proof.add(sum);
    } else {
      proof.set(place, sum);
    }
    return proof.size();
  }

  public int shorten() {
    if (proof.isEmpty()) {
      throw new IllegalStateException();
    }
    return proof.remove(proof.size() - 1);
  }

  public int sums() {
    return proof.size();
  }

  public int sumAt(int place) {
    if (place < 0 || place >= proof.size()) {
      throw new IndexOutOfBoundsException();
    }
    return proof.get(place);
  }

  public boolean testLeaf(int view, int value, int leaf, int size) {
    List<Integer> leaves = view(view);
    need(isValue(value) && size >= 1 && size <= leaves.size() && leaf >= 0 && leaf < size);
    Integer reached = climb(proof, leaf, size, value);
    return reached != null && reached == rootOf(firstOf(leaves, size));
  }

  public boolean testGrowth(int old, int from, int view, int size) {
    List<Integer> first = view(old);
    List<Integer> leaves = view(view);
    need(size >= 1 && size <= leaves.size() && from >= 1 && from <= size && from <= first.size());
    int oldRoot = rootOf(firstOf(first, from));
    int[] both = climbGrowth(proof, from, size, true, oldRoot);
    return both != null && both[0] == oldRoot && both[1] == rootOf(firstOf(leaves, size));
  }

  public boolean testKey(int key, int value) {
    need(key >= 0 && key <= 63 && (value == -1 || isValue(value)));
    if (proof.size() != 6) {
      return false;
    }
    int reached = value == -1 ? 0 : leafSum(value + 1);
    int place = key;
    for (int sum : proof) {
      reached = place % 2 == 0 ? above(reached, sum) : above(sum, reached);
      place = place / 2;
    }
    return reached == mapRoot();
  }

  public int put(int key, int value) {
    need(key >= 0 && key <= 63 && isValue(value));
    int had = get(key);
    map[key] = value;
    return had;
  }

  public int remove(int key) {
    int had = get(key);
    map[key] = null;
    return had;
  }

  public int get(int key) {
    need(key >= 0 && key <= 63);
    return map[key] == null ? -1 : map[key];
  }

  public int mapRoot() {
    return placeSum(6, 0);
  }

  public boolean show(int watcher, int view) {
    Watcher shown = watcher(watcher);
    List<Integer> leaves = view(view);
    boolean none = shown.view == null;
    if (!none
        && (leaves.size() < shown.size || rootOf(firstOf(leaves, shown.size)) != shown.root)) {
      shown.alarmed = true;
      return false;
    }
    if (shown.value >= 0) {
      for (int leaf = none ? 0 : shown.size; leaf < leaves.size(); leaf++) {
        shown.counted += leaves.get(leaf) == shown.value ? 1 : 0;
      }
    }
    shown.view = leaves;
    shown.size = leaves.size();
    shown.root = rootOf(leaves);
    return true;
  }

  public boolean gossip(int one, int other) {
    Watcher a = watcher(one);
    Watcher b = watcher(other);
    if (one == other || a.view == null || b.view == null) {
      return true;
    }
    Watcher greater = b.size > a.size ? b : a;
    Watcher lesser = b.size > a.size ? a : b;
    if (rootOf(firstOf(greater.view, lesser.size)) == lesser.root) {
      return true;
    }
    a.alarmed = true;
    b.alarmed = true;
    return false;
  }

  public void follow(int watcher, int value) {
    Watcher follower = watcher(watcher);
    need(isValue(value));
    follower.value = value;
    follower.counted = 0;
  }

  public boolean isAlarmed(int watcher) {
    return watcher(watcher).alarmed;
  }

  public int keptSize(int watcher) {
    return watcher(watcher).size;
  }

  public int keptRoot(int watcher) {
    return watcher(watcher).root;
  }

  public int counted(int watcher) {
    return watcher(watcher).counted;
  }
}
