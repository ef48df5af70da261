/** Compares answers with those that are due, and counts the promises that hold. */
final class Check {
  interface Call {
    Object answer();
  }

  private final String title;
  private int wrong;
  private int compared;

  Check(String title) {
    this.title = title;
  }

  /** What a call answers; throws.X if it throws X, by X's own class and no class above it. */
  static String outcome(Call call) {
    try {
      return String.valueOf(call.answer());
    } catch (RuntimeException e) {
      return "throws." + e.getClass().getSimpleName();
    }
  }

  void due(String call, Object want, Call made) {
    same(call, String.valueOf(want), outcome(made));
  }

  void outOfBounds(String call, Call made) {
    due(call, "throws.IndexOutOfBoundsException", made);
  }

  void badArgument(String call, Call made) {
    due(call, "throws.IllegalArgumentException", made);
  }

  void badState(String call, Call made) {
    due(call, "throws.IllegalStateException", made);
  }

  void same(String call, String want, String got) {
    compared++;
    if (!want.equals(got)) {
      wrong++;
      if (wrong <= 20) {
        System.out.println(title + ": " + call + " answered " + got + ", due is " + want);
      }
    }
  }

  boolean isRight() {
    return wrong == 0 && compared > 0;
  }

  boolean holds() {
    System.out.println(title + ": " + compared + " answers, " + wrong + " not as due");
    return isRight();
  }
}
