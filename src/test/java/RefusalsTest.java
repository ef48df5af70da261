import java.util.ArrayList;
import java.util.List;

/**
 * Each call of the face, in several states, with all arguments at, below and above the edges that
 * the document names, in every combination. What is answered or thrown is held against the model;
 * behind each call that throws or asks, the object against a twin without that call.
 */
public final class RefusalsTest {
  private static final int LOW = Integer.MIN_VALUE;
  private static final int HIGH = Integer.MAX_VALUE;

  /** Each state by the calls that lead to it. */
  private static final String[][] STATES = {
    {},
    {"append(0, 7)", "follow(0, 7)", "show(0, 0)", "change(0, 5)", "put(0, 0)"},
    {
      "appendRow(0, 10, 5)", "fork(0, 3)", "append(1, 99)", "put(0, 1)", "put(63, 65535)",
      "loadGrowth(0, 3, 5)", "follow(2, 13)", "show(0, 0)", "show(1, 1)", "show(2, 0)"
    },
    {
      "appendRow(0, 10, 40)", "appendRow(0, 50, 20)", "fork(0, 60)", "appendRow(1, 70, 40)",
      "fork(0, 0)", "loadKey(0)", "change(6, 1)", "change(7, 2)", "change(8, 3)", "change(9, 4)",
      "change(10, 5)", "show(0, 2)", "show(1, 1)", "show(2, 0)", "show(1, 0)", "follow(3, 9)"
    },
    {
      "appendRow(0, 10, 40)", "appendRow(0, 50, 40)", "appendRow(0, 90, 19)", "fork(0, 99)",
      "append(1, 7)", "fork(0, 61)", "put(62, 9)", "put(1, 9)", "loadKey(63)", "change(6, 1)",
      "change(7, 2)", "change(8, 3)", "change(9, 4)", "change(10, 5)", "change(11, 1000002)",
      "follow(0, 7)", "follow(3, 109)", "show(0, 2)", "show(3, 1)", "show(2, 0)"
    },
    {
      "appendRow(0, 10, 6)", "fork(0, 6)", "fork(0, 4)", "appendRow(2, 14, 3)",
      "loadLeaf(1, 4, 6)", "show(3, 0)", "show(3, 2)", "gossip(3, 0)", "follow(1, 14)"
    }
  };

  /** Each call with the kinds of its arguments. */
  private static final String[] CALLS = {
    "append view value", "appendRow view first many", "fork view size", "views", "size view",
    "leaf view size", "root view size", "rootAnew view size", "loadLeaf view size size",
    "loadGrowth view size size", "loadKey key", "change place sum", "shorten", "sums",
    "sumAt place", "testLeaf view value size size", "testGrowth view size view size",
    "testKey key value", "put key value", "remove key", "get key", "mapRoot", "show watcher view",
    "gossip watcher watcher", "follow watcher value", "isAlarmed watcher", "keptSize watcher",
    "keptRoot watcher", "counted watcher"
  };

  /** Calls that change something when they are not refused. */
  private static final List<String> CHANGING = List.of(
      "append", "appendRow", "fork", "loadLeaf", "loadGrowth", "loadKey", "change", "shorten",
      "put", "remove", "show", "gossip", "follow");

  private final Check check = new Check("refusals");
  private int refused;

  private String[] state;
  private Model model;
  private List<String> untouched;

  public static void main(String[] args) {
    RefusalsTest test = new RefusalsTest();
    for (String[] state : STATES) {
      test.enter(state);
      for (String call : CALLS) {
        test.combine(call.split(" "));
      }
    }
    boolean holds = test.check.holds() && test.refused > 10000;
    System.out.println(test.refused + " calls were refused");
    System.out.println(holds ? "1 passed, 0 failed" : "0 passed, 1 failed");
    if (!holds) {
      System.exit(1);
    }
  }

  private void enter(String[] entered) {
    state = entered;
    model = new Model();
    for (String call : state) {
      Calls.answer(model, call);
    }
    untouched = look(gallery());
  }

  private TreeheadGallery gallery() {
    TreeheadGallery made = new TreeheadGallery();
    for (String call : state) {
      Calls.answer(made, call);
    }
    return made;
  }

  private static List<String> look(TreeheadGallery gallery) {
    return Look.at(gallery, 7, 9, 13, 14);
  }

  /** Makes the call with every combination of its arguments' edges. */
  private void combine(String[] words) {
    int[][] edges = new int[words.length - 1][];
    int combinations = 1;
    for (int i = 0; i < edges.length; i++) {
      edges[i] = edges(words[i + 1]);
      combinations *= edges[i].length;
    }
    for (int number = 0; number < combinations; number++) {
      int[] arguments = new int[edges.length];
      int rest = number;
      for (int i = 0; i < arguments.length; i++) {
        arguments[i] = edges[i][rest % edges[i].length];
        rest /= edges[i].length;
      }
      one(words[0], arguments);
    }
  }

  private void one(String name, int[] arguments) {
    String told = "behind " + String.join(", ", state) + ": " + Calls.told(name, arguments);
    Object held = CHANGING.contains(name) ? copy() : model;
    String want = Calls.answer(held, name, arguments);
    TreeheadGallery gallery = gallery();
    check.same(told, want, Calls.answer(gallery, name, arguments));
    if (want.startsWith("throws.") || !CHANGING.contains(name)) {
      refused += want.startsWith("throws.") ? 1 : 0;
      List<String> seen = look(gallery);
      check.same(told, "nothing changed", seen.equals(untouched) ? "nothing changed" : "" + seen);
    }
  }

  private Model copy() {
    Model made = new Model();
    for (String call : state) {
      Calls.answer(made, call);
    }
    return made;
  }

  private int[] edges(String kind) {
    return switch (kind) {
      case "view" -> new int[] {LOW, -1, 0, 1, 2, 3, HIGH};
      case "watcher" -> new int[] {LOW, -1, 0, 1, 2, 3, 4, HIGH};
      case "value" -> new int[] {LOW, -2, -1, 0, 1, 11, 65534, 65535, 65536, HIGH};
      case "first" -> new int[] {LOW, -1, 0, 1, 65495, 65496, 65497, 65534, 65535, 65536, HIGH};
      case "many" -> new int[] {LOW, -1, 0, 1, 2, 39, 40, 41, HIGH};
      case "key" -> new int[] {LOW, -1, 0, 1, 62, 63, 64, HIGH};
      case "sum" -> new int[] {LOW, -1, 0, 1, 1000001, 1000002, 1000003, HIGH};
      case "place" -> placeEdges();
      case "size" -> sizeEdges();
      default -> throw new IllegalArgumentException(kind);
    };
  }

  private int[] placeEdges() {
    int sums = model.sums();
    return new int[] {LOW, -1, 0, 1, sums - 1, sums, sums + 1, 11, 12, 13, HIGH};
  }

  /** Around the sizes of all views. */
  private int[] sizeEdges() {
    List<Integer> edges = new ArrayList<>(List.of(LOW, -1, 0, 1, 2, 100, 101, HIGH));
    for (int view = 0; view < model.views(); view++) {
      for (int near = -1; near <= 1; near++) {
        int size = model.size(view) + near;
        if (!edges.contains(size)) {
          edges.add(size);
        }
      }
    }
    int[] numbers = new int[edges.size()];
    for (int i = 0; i < numbers.length; i++) {
      numbers[i] = edges.get(i);
    }
    return numbers;
  }
}
