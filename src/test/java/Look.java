import java.util.ArrayList;
import java.util.List;

/**
 * A long look at an object, at most CALLS calls: all that can be asked, and then calls by which
 * shows what can't be asked: the views that watchers keep, and the values that they follow.
 */
final class Look {
  static final int CALLS = 180;

  private final TreeheadGallery gallery;
  private final int[] followed;
  private final List<String> seen = new ArrayList<>();

  private Look(TreeheadGallery gallery, int[] followed) {
    this.gallery = gallery;
    this.followed = followed;
  }

  /** What is seen; the values followed are appended, so that a watcher counts them. */
  static List<String> at(TreeheadGallery gallery, int... followed) {
    Look look = new Look(gallery, followed);
    look.askAll();
    look.goOn();
    if (look.seen.size() > CALLS) {
      throw new IllegalStateException("a look of " + look.seen.size() + " calls");
    }
    return look.seen;
  }

  private String see(String name, int... arguments) {
    String answer = Calls.answer(gallery, name, arguments);
    seen.add(answer);
    return answer;
  }

  private void askAll() {
    int views = Integer.parseInt(see("views"));
    for (int view = 0; view < views; view++) {
      int size = Integer.parseInt(see("size", view));
      see("root", view, size);
      see("rootAnew", view, size);
      see("leaf", view, size - 1);
    }
    int sums = Integer.parseInt(see("sums"));
    for (int place = 0; place < sums; place++) {
      see("sumAt", place);
    }
    see("mapRoot");
    for (int key = 0; key < 64; key++) {
      see("get", key);
    }
    askWatchers();
  }

  private void askWatchers() {
    for (int watcher = 0; watcher < 4; watcher++) {
      see("isAlarmed", watcher);
      see("keptSize", watcher);
      see("keptRoot", watcher);
      see("counted", watcher);
    }
  }

  private void goOn() {
    gossipAll();
    for (int value : followed) {
      see("append", 0, value);
    }
    for (int watcher = 0; watcher < 4; watcher++) {
      see("show", watcher, 0);
    }
    askWatchers();
    int last = Integer.parseInt(see("views")) - 1;
    for (int value : followed) {
      see("append", last, value);
    }
    for (int watcher = 0; watcher < 4; watcher++) {
      see("show", watcher, last);
    }
    gossipAll();
    askWatchers();
    see("shorten");
    see("change", 0, 77);
    see("loadKey", 9);
    see("put", 9, 9);
    see("fork", 0, 0);
  }

  private void gossipAll() {
    for (int one = 0; one < 4; one++) {
      for (int other = 0; other < one; other++) {
        see("gossip", one, other);
      }
    }
  }
}
