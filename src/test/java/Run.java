import java.util.ArrayList;
import java.util.List;
import java.util.Set;

/**
 * A run of calls on one new object, each told with the answer that is due. At its end the object is
 * held against a twin that was made by the same calls without those that ask and those that threw:
 * neither may have changed anything.
 */
final class Run {
  private static final Set<String> ASKING = Set.of(
      "views", "size", "leaf", "root", "rootAnew", "sums", "sumAt", "testLeaf", "testGrowth",
      "testKey", "get", "mapRoot", "isAlarmed", "keptSize", "keptRoot", "counted");

  private final Check check;
  private final TreeheadGallery gallery = new TreeheadGallery();
  private final List<String> changing = new ArrayList<>();
  private int calls;

  Run(Check check) {
    this.check = check;
  }

  /** Each of these calls, in this order, has this answer. */
  Run due(Object want, String... told) {
    for (String call : told) {
      calls++;
      String got = Calls.answer(gallery, call);
      check.same("call " + calls + ", " + call, String.valueOf(want), got);
      if (!got.startsWith("throws.") && !ASKING.contains(Calls.nameOf(call))) {
        changing.add(call);
      }
    }
    return this;
  }

  /** These calls throw IndexOutOfBoundsException. */
  Run out(String... told) {
    return due("throws.IndexOutOfBoundsException", told);
  }

  /** These calls throw IllegalArgumentException. */
  Run bad(String... told) {
    return due("throws.IllegalArgumentException", told);
  }

  /** These calls throw IllegalStateException. */
  Run state(String... told) {
    return due("throws.IllegalStateException", told);
  }

  Run nothing(String... told) {
    return due("nothing", told);
  }

  Run yes(String... told) {
    return due(true, told);
  }

  Run no(String... told) {
    return due(false, told);
  }

  /** Appends first, first + 1 and so on, by as few calls as may be. */
  Run leaves(int view, int first, int many) {
    int size = number(Calls.told("size", view));
    for (int done = 0; done < many; done += 40) {
      int next = Math.min(40, many - done);
      due(size + done + next, Calls.told("appendRow", view, first + done, next));
    }
    return this;
  }

  /** Loads a proof, and looks at each of its sums. */
  Run loads(String told, int... sums) {
    return due(sums.length, told).has(sums);
  }

  /** The desk has just these sums. */
  Run has(int... sums) {
    due(sums.length, "sums()");
    for (int place = 0; place < sums.length; place++) {
      due(sums[place], Calls.told("sumAt", place));
    }
    return out(Calls.told("sumAt", sums.length));
  }

  /** The proof on the desk is accepted by a test, but not with a sum changed, more or less. */
  Run provesJust(String test) {
    int sums = number("sums()");
    yes(test);
    for (int place = 0; place < sums; place++) {
      int sum = number(Calls.told("sumAt", place));
      due(sums, Calls.told("change", place, (sum + 1) % Model.MODULUS)).no(test);
      due(sums, Calls.told("change", place, sum));
    }
    due(sums + 1, Calls.told("change", sums, 0)).no(test).due(0, "shorten()").yes(test);
    if (sums > 0) {
      int last = number(Calls.told("sumAt", sums - 1));
      due(last, "shorten()").no(test);
      due(sums, Calls.told("change", sums - 1, last)).yes(test);
    }
    return this;
  }

  private int number(String asked) {
    calls++;
    return Integer.parseInt(Calls.answer(gallery, asked));
  }

  /** A watcher keeps the head of this size and root. */
  Run keeps(int watcher, int size, int root) {
    due(size, Calls.told("keptSize", watcher));
    return due(root, Calls.told("keptRoot", watcher));
  }

  int calls() {
    return calls;
  }

  void end() {
    check.same("calls, at most 512", "true", String.valueOf(calls <= Calls.MOST));
    if (calls + Look.CALLS > Calls.MOST) {
      return;
    }
    TreeheadGallery twin = new TreeheadGallery();
    for (String call : changing) {
      Calls.answer(twin, call);
    }
    int[] followed = followed();
    List<String> want = Look.at(twin, followed);
    List<String> got = Look.at(gallery, followed);
    check.same("a look behind all calls", want.toString(), got.toString());
  }

  private int[] followed() {
    int[] values = new int[4];
    for (String call : changing) {
      if (call.startsWith("follow(")) {
        String[] numbers = call.substring(7, call.length() - 1).split(", *");
        values[Integer.parseInt(numbers[0])] = Integer.parseInt(numbers[1]);
      }
    }
    return values;
  }
}
