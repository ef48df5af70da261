/** The sentences on the map that name a boundary, and promises 12 and 19 to 23. */
public final class EdgesOfMapTest {
  private static final Edges EDGES = new Edges("edges of the map");

  /** Values of keys 0 and 1 whose sums have the mix 0. */
  private static final int ZERO_LEFT = 18;

  private static final int ZERO_RIGHT = 24428;

  public static void main(String[] args) {
    sumsOfTerms();
    proofsOfTerms();
    loadKey();
    testKey();
    testKeyRanges();
    put();
    remove();
    get();
    mapRoot();
    EDGES.end();
  }

  /** The sum of a key that has a value. */
  private static int sum(int value) {
    return Model.leafSum(value + 1);
  }

  /** The root of a map where one key alone has a value. */
  private static int lone(int key, int value) {
    int sum = sum(value);
    for (int level = 0; level < 6; level++) {
      sum = (key >> level) % 2 == 0 ? Model.mix(sum, 0) : Model.mix(0, sum);
    }
    return sum;
  }

  private static void sumsOfTerms() {
    EDGES.says("terms: the sum of a key is 0 if it has none", r -> r
        .loads("loadKey(1)", 0, 0, 0, 0, 0, 0).due(-1, "put(0, 0)")
        .loads("loadKey(1)", 52848, 0, 0, 0, 0, 0).due(0, "remove(0)")
        .loads("loadKey(1)", 0, 0, 0, 0, 0, 0));
    EDGES.says("terms: otherwise the sum of a leaf with its value and 1, together", r -> r
        .due(-1, "put(0, 0)").due(6, "loadKey(1)").due(52848, "sumAt(0)")
        .due(0, "put(0, 65535)").due(6, "loadKey(1)").due(408991, "sumAt(0)")
        .due(65535, "put(0, 65534)").due(6, "loadKey(1)").due(368488, "sumAt(0)"));
    EDGES.says("terms: the sum of a place is 0 if both sums below it are 0", r -> r
        .due(0, "mapRoot()").due(-1, "put(2, 9)").loads("loadKey(4)", 0, 0,
            Model.mix(0, Model.mix(sum(9), 0)), 0, 0, 0)
        .loads("loadKey(2)", 0, 0, 0, 0, 0, 0).due(9, "remove(2)").due(0, "mapRoot()"));
    EDGES.says("terms: otherwise their mix: one sum below is 0, left or right", r -> r
        .due(-1, "put(0, 9)").due(lone(0, 9), "mapRoot()").due(9, "remove(0)")
        .due(-1, "put(1, 9)").due(lone(1, 9), "mapRoot()").due(9, "remove(1)")
        .due(-1, "put(31, 9)").due(lone(31, 9), "mapRoot()").due(9, "remove(31)")
        .due(-1, "put(32, 9)").due(lone(32, 9), "mapRoot()").due(9, "remove(32)")
        .due(-1, "put(63, 9)").due(lone(63, 9), "mapRoot()"));
    EDGES.says("terms: both sums below it are 0, one of them by its mix", r -> r
        .due(-1, "put(0, " + ZERO_LEFT + ")", "put(1, " + ZERO_RIGHT + ")").due(0, "mapRoot()")
        .loads("loadKey(2)", 0, 0, 0, 0, 0, 0)
        .loads("loadKey(0)", sum(ZERO_RIGHT), 0, 0, 0, 0, 0).yes("testKey(0, " + ZERO_LEFT + ")")
        .due(-1, "put(2, 0)").due(
            lone(2, 0), "mapRoot()").loads("loadKey(3)", 52848, 0, 0, 0, 0, 0)
        .yes("testKey(3, -1)"));
    EDGES.says("terms: the place p is above the places 2 * p and 2 * p + 1", r -> r
        .due(-1, "put(1, 7)", "put(2, 8)").loads("loadKey(0)", sum(7), Model.mix(sum(8), 0), 0, 0,
            0, 0)
        .loads("loadKey(3)", sum(8), Model.mix(0, sum(7)), 0, 0, 0, 0));
    EDGES.says("terms: on level 6 there is one place, whose sum is the root of the map", r -> r
        .due(-1, "put(31, 7)", "put(32, 8)").due(6, "loadKey(31)").yes("testKey(31, 7)")
        .due(6, "loadKey(32)").yes("testKey(32, 8)")
        .due(Model.mix(half(31, 7), half(0, 8)), "mapRoot()"));
  }

  /** The sum of one half of the map, where the key with this number in it has a value. */
  private static int half(int key, int value) {
    int sum = sum(value);
    for (int level = 0; level < 5; level++) {
      sum = (key >> level) % 2 == 0 ? Model.mix(sum, 0) : Model.mix(0, sum);
    }
    return sum;
  }

  private static void proofsOfTerms() {
    EDGES.says("terms: the proof of a key are the 6 sums beside its way, from the lowest up", r -> {
      for (int level = 0; level < 6; level++) {
        r.due(-1, Calls.told("put", 1 << level, level));
      }
      int[] beside = new int[6];
      for (int level = 0; level < 6; level++) {
        beside[level] = sum(level);
        for (int up = 0; up < level; up++) {
          beside[level] = Model.mix(beside[level], 0);
        }
      }
      r.loads("loadKey(0)", beside).provesJust("testKey(0, -1)");
    });
    EDGES.says("terms: the other place below the same one; the last key", r -> {
      int[] beside = new int[6];
      for (int level = 0; level < 6; level++) {
        r.due(-1, Calls.told("put", 63 ^ (1 << level), level));
        beside[level] = sum(level);
        for (int up = 0; up < level; up++) {
          beside[level] = Model.mix(0, beside[level]);
        }
      }
      r.loads("loadKey(63)", beside).provesJust("testKey(63, -1)");
    });
  }

  private static void loadKey() {
    EDGES.says("promise 12: key: 0 to 63", r -> r
        .bad("loadKey(-1)", "loadKey(64)", "loadKey(LOW)", "loadKey(HIGH)").has()
        .due(6, "loadKey(0)", "loadKey(1)", "loadKey(62)", "loadKey(63)")
        .due(-1, "put(62, 5)").loads("loadKey(63)", sum(5), 0, 0, 0, 0, 0)
        .bad("loadKey(-1)", "loadKey(64)").has(sum(5), 0, 0, 0, 0, 0));
    EDGES.says("promise 12: returns 6, whatever the desk had", r -> {
      for (int place = 0; place < 12; place++) {
        r.due(place + 1, Calls.told("change", place, 5));
      }
      r.loads("loadKey(9)", 0, 0, 0, 0, 0, 0).due(0, "shorten()").due(6, "loadKey(9)");
      r.leaves(0, 10, 1).due(0, "loadLeaf(0, 0, 1)").due(6, "loadKey(9)");
    });
    EDGES.says("promise 12: a loaded proof stays when the map changes", r -> r
        .due(6, "loadKey(1)").due(-1, "put(0, 7)").has(0, 0, 0, 0, 0, 0).no("testKey(1, -1)")
        .yes("testKey(0, 7)").loads("loadKey(1)", sum(7), 0, 0, 0, 0, 0).yes("testKey(1, -1)"));
  }

  private static void testKey() {
    EDGES.says("promise 19: accepted if it has just as many sums; 5, 6 and 7", r -> r
        .no("testKey(5, -1)").due(6, "loadKey(5)").yes("testKey(5, -1)").due(0, "shorten()")
        .no("testKey(5, -1)").due(6, "change(5, 0)").yes("testKey(5, -1)").due(7, "change(6, 0)")
        .no("testKey(5, -1)"));
    EDGES.says("promise 19: value: NONE for none, the least one beside it", r -> r
        .due(6, "loadKey(5)").yes("testKey(5, -1)").no("testKey(5, 0)").due(-1, "put(5, 0)")
        .no("testKey(5, -1)").yes("testKey(5, 0)").no("testKey(5, 1)").due(0, "remove(5)")
        .yes("testKey(5, -1)").no("testKey(5, 0)"));
    EDGES.says("promise 19: value: the greatest one", r -> r
        .due(-1, "put(0, 65535)").due(6, "loadKey(0)").provesJust("testKey(0, 65535)")
        .no("testKey(0, 65534)", "testKey(0, -1)", "testKey(0, 0)"));
    EDGES.says("promise 19: each sum counts, in a full map", r -> {
      for (int key = 0; key < 64; key++) {
        r.due(-1, Calls.told("put", key, key));
      }
      r.due(394928, "mapRoot()").due(6, "loadKey(42)").provesJust("testKey(42, 42)");
      r.no("testKey(42, -1)", "testKey(43, 42)", "testKey(41, 42)", "testKey(42, 43)");
      r.due(6, "loadKey(0)").yes("testKey(0, 0)").no("testKey(0, -1)", "testKey(1, 1)");
    });
    EDGES.says("promise 19: by the root that the map has now", r -> r
        .due(-1, "put(7, 7)").due(6, "loadKey(8)").yes("testKey(8, -1)").due(7, "put(7, 8)")
        .no("testKey(8, -1)").due(8, "put(7, 7)").yes("testKey(8, -1)"));
    EDGES.says("promise 19: a place whose two sums below are 0, in the test too", r -> r
        .due(6, "loadKey(0)").yes("testKey(0, -1)", "testKey(63, -1)").due(6, "change(5, 3)")
        .no("testKey(0, -1)", "testKey(63, -1)").due(6, "change(5, 0)").yes("testKey(63, -1)")
        .due(6, "change(0, 3)").no("testKey(0, -1)"));
  }

  private static void testKeyRanges() {
    EDGES.says("promise 19: key: 0 to 63", r -> r
        .due(6, "loadKey(0)").bad("testKey(-1, 0)", "testKey(64, 0)", "testKey(LOW, 0)")
        .bad("testKey(HIGH, 0)", "testKey(64, -1)", "testKey(-1, -1)", "testKey(64, 65536)")
        .yes("testKey(0, -1)", "testKey(1, -1)", "testKey(62, -1)", "testKey(63, -1)"));
    EDGES.says("promise 19: value: 0 to 65535; NONE for none", r -> r
        .due(6, "loadKey(0)").bad("testKey(0, -2)", "testKey(0, LOW)", "testKey(0, 65536)")
        .bad("testKey(0, HIGH)").yes("testKey(0, -1)").no("testKey(0, 0)", "testKey(0, 65535)"));
    EDGES.says("promise 19: out of range, without a proof too", r -> r
        .bad("testKey(64, 0)", "testKey(0, 65536)", "testKey(0, -2)", "testKey(-1, -1)")
        .no("testKey(0, -1)"));
  }

  private static void put() {
    EDGES.says("promise 20: key: 0 to 63", r -> r
        .bad("put(-1, 5)", "put(64, 5)", "put(LOW, 5)", "put(HIGH, 5)").due(0, "mapRoot()")
        .due(-1, "put(0, 5)", "put(63, 6)").bad("put(64, 5)", "put(-1, 5)").due(5, "get(0)")
        .due(6, "get(63)").due(-1, "get(1)", "get(62)"));
    EDGES.says("promise 20: value: 0 to 65535", r -> r
        .bad("put(9, -1)", "put(9, LOW)", "put(9, 65536)", "put(9, HIGH)").due(-1, "get(9)")
        .due(-1, "put(9, 0)").bad("put(9, -1)", "put(9, 65536)").due(0, "get(9)")
        .due(0, "put(9, 65535)").bad("put(9, -1)", "put(9, 65536)").due(65535, "get(9)")
        .due(lone(9, 65535), "mapRoot()"));
    EDGES.says("promise 20: returns the value that it had; NONE if it had none", r -> r
        .due(-1, "put(9, 0)").due(0, "put(9, 65535)").due(65535, "put(9, 65535)", "put(9, 4)")
        .due(4, "remove(9)").due(-1, "put(9, 3)").due(-1, "put(8, 1)", "put(10, 2)")
        .due(3, "put(9, 3)").due(1, "get(8)").due(2, "get(10)"));
    EDGES.says("promise 20: both out of range", r -> r
        .bad("put(64, 65536)", "put(-1, -1)", "put(64, -1)").due(0, "mapRoot()"));
  }

  private static void remove() {
    EDGES.says("promise 21: key: 0 to 63", r -> r
        .due(-1, "put(0, 5)", "put(63, 6)").bad("remove(-1)", "remove(64)", "remove(LOW)")
        .bad("remove(HIGH)").due(5, "get(0)").due(6, "get(63)").due(5, "remove(0)")
        .due(6, "remove(63)").due(-1, "get(0)", "get(63)").due(0, "mapRoot()"));
    EDGES.says("promise 21: returns the value that it had; NONE if it had none", r -> r
        .due(-1, "remove(7)").due(-1, "put(7, 0)").due(0, "remove(7)").due(-1, "remove(7)")
        .due(-1, "put(7, 65535)").due(65535, "remove(7)").due(-1, "remove(7)").due(0, "mapRoot()"));
    EDGES.says("promise 21: takes the value of this key away alone", r -> r
        .due(-1, "put(6, 1)", "put(7, 2)", "put(8, 3)").due(2, "remove(7)").due(1, "get(6)")
        .due(-1, "get(7)").due(3, "get(8)").due(3, "remove(8)").due(lone(6, 1), "mapRoot()"));
  }

  private static void get() {
    EDGES.says("promise 22: key: 0 to 63", r -> r
        .bad("get(-1)", "get(64)", "get(LOW)", "get(HIGH)").due(-1, "get(0)", "get(63)")
        .due(-1, "put(0, 4)", "put(63, 5)").bad("get(-1)", "get(64)").due(4, "get(0)")
        .due(5, "get(63)").due(-1, "get(1)", "get(62)"));
    EDGES.says("promise 22: returns the value; NONE if it has none", r -> r
        .due(-1, "get(9)").due(-1, "put(9, 0)").due(0, "get(9)").due(0, "put(9, 65535)")
        .due(65535, "get(9)").due(65535, "remove(9)").due(-1, "get(9)"));
  }

  private static void mapRoot() {
    EDGES.says("promise 23: returns the root of the map, 0 of an empty one", r -> r
        .due(0, "mapRoot()").due(-1, "remove(5)").due(0, "mapRoot()").due(-1, "put(5, 0)")
        .due(565046, "mapRoot()").due(lone(5, 0), "mapRoot()").due(0, "put(5, 0)")
        .due(565046, "mapRoot()").bad("put(5, 65536)", "remove(64)").due(565046, "mapRoot()")
        .due(0, "remove(5)").due(0, "mapRoot()"));
    EDGES.says("promise 23: the root of a full map, then of one without its last key", r -> {
      for (int key = 0; key < 63; key++) {
        r.due(-1, Calls.told("put", key, key));
      }
      r.due(-1, "put(63, 64)").due(64, "put(63, 63)").due(394928, "mapRoot()");
      for (int key = 63; key > 0; key--) {
        r.due(key, Calls.told("remove", key));
      }
      r.due(lone(0, 0), "mapRoot()").due(0, "remove(0)").due(0, "mapRoot()");
    });
  }
}
