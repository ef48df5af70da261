import java.util.ArrayList;
import java.util.List;

/** Rows of leaves, and their roots by the model's recursion. */
final class Rows {
  private Rows() {}

  /** The values first, first + 1 and so on. */
  static List<Integer> from(int first, int many) {
    List<Integer> row = new ArrayList<>();
    for (int i = 0; i < many; i++) {
      row.add(first + i);
    }
    return row;
  }

  static int root(int first, int many) {
    return Model.rootOf(from(first, many));
  }

  /** The root of one value, and of first, first + 1 and so on behind it. */
  static int rootBehind(int value, int first, int many) {
    List<Integer> row = from(first, many);
    row.add(0, value);
    return Model.rootOf(row);
  }

  static int rootOf(Integer... values) {
    return Model.rootOf(List.of(values));
  }

  static int[] leafProof(int first, int many, int leaf) {
    return numbers(Model.leafProof(from(first, many), leaf));
  }

  static int[] growthProof(int first, int many, int old) {
    return numbers(Model.part(from(first, many), old, true));
  }

  private static int[] numbers(List<Integer> list) {
    int[] numbers = new int[list.size()];
    for (int i = 0; i < numbers.length; i++) {
      numbers[i] = list.get(i);
    }
    return numbers;
  }
}
