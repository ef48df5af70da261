/** The sentences on proofs and the desk that name a boundary, and promises 10 to 18. */
public final class EdgesOfProofsTest {
  private static final Edges EDGES = new Edges("edges of proofs");

  public static void main(String[] args) {
    leafProofsOfTerms();
    growthProofsOfTerms();
    testingOfTerms();
    testingGrowthOfTerms();
    loadLeaf();
    loadGrowth();
    change();
    shortenAndSums();
    testLeaf();
    testLeafRanges();
    testGrowth();
    testGrowthRanges();
    EDGES.end();
  }

  /** The sum of the leaf with this number in a row of 10, 11 and so on. */
  private static int sum(int leaf) {
    return Model.leafSum(10 + leaf);
  }

  /** The root of many leaves of that row, from one on. */
  private static int part(int from, int many) {
    return Rows.root(10 + from, many);
  }

  private static void leafProofsOfTerms() {
    EDGES.says("terms: the proof that leaf i is in a row of n leaves is empty if n is 1", r -> r
        .leaves(0, 10, 1).loads("loadLeaf(0, 0, 1)").leaves(0, 11, 4).due(6, "loadKey(0)")
        .loads("loadLeaf(0, 0, 1)").state("shorten()"));
    EDGES.says("terms: if i is below k, behind it the root of the others; 2 leaves", r -> r
        .leaves(0, 10, 3).loads("loadLeaf(0, 0, 2)", sum(1)).loads("loadLeaf(0, 1, 2)", sum(0)));
    EDGES.says("terms: i is one below k and k; 3 leaves", r -> r
        .leaves(0, 10, 3).loads("loadLeaf(0, 0, 3)", sum(1), sum(2))
        .loads("loadLeaf(0, 1, 3)", sum(0), sum(2)).loads("loadLeaf(0, 2, 3)", part(0, 2)));
    EDGES.says("terms: i is one below k and k; 4 leaves", r -> r
        .leaves(0, 10, 4).loads("loadLeaf(0, 1, 4)", sum(0), part(2, 2))
        .loads("loadLeaf(0, 2, 4)", sum(3), part(0, 2))
        .loads("loadLeaf(0, 3, 4)", sum(2), part(0, 2)));
    EDGES.says("terms: i is one below k and k; 5 leaves", r -> r
        .leaves(0, 10, 5).loads("loadLeaf(0, 3, 5)", sum(2), part(0, 2), sum(4))
        .loads("loadLeaf(0, 4, 5)", part(0, 4)));
    EDGES.says("terms: i is one below k, k and above; 7 leaves", r -> r
        .leaves(0, 10, 7).loads("loadLeaf(0, 3, 7)", sum(2), part(0, 2), part(4, 3))
        .loads("loadLeaf(0, 4, 7)", sum(5), sum(6), part(0, 4))
        .loads("loadLeaf(0, 5, 7)", sum(4), sum(6), part(0, 4))
        .loads("loadLeaf(0, 6, 7)", part(4, 2), part(0, 4)));
    int[][] bounds = {
      {8, 0}, {8, 3}, {8, 4}, {8, 7}, {9, 7}, {9, 8}, {16, 7}, {16, 8}, {17, 15}, {17, 16},
      {33, 31}, {33, 32}, {64, 0}, {64, 31}, {64, 32}, {64, 63}, {65, 0}, {65, 63}, {65, 64},
      {100, 0}, {100, 63}, {100, 64}, {100, 95}, {100, 96}, {100, 99}, {99, 98}
    };
    for (int[] bound : bounds) {
      int n = bound[0];
      int i = bound[1];
      EDGES.says("terms: the proof of leaf " + i + " in " + n, r -> r
          .leaves(0, 10, n)
          .loads(Calls.told("loadLeaf", 0, i, n), Rows.leafProof(10, n, i))
          .provesJust(Calls.told("testLeaf", 0, 10 + i, i, n)));
    }
  }

  private static void growthProofsOfTerms() {
    EDGES.says("terms: if m is n, with trust empty", r -> {
      r.leaves(0, 10, 100).due(6, "loadKey(0)");
      for (int n : new int[] {1, 2, 3, 4, 7, 8, 63, 64, 65, 99, 100}) {
        r.loads(Calls.told("loadGrowth", 0, n, n));
      }
    });
    EDGES.says("terms: if m is n, without trust the root of the n leaves", r -> r
        .leaves(0, 10, 7).loads("loadGrowth(0, 3, 4)", sum(2), sum(3), part(0, 2))
        .loads("loadGrowth(0, 6, 7)", part(4, 2), sum(6), part(0, 4)));
    EDGES.says("terms: if m is not above k, the root of the others; 2 and 3 leaves", r -> r
        .leaves(0, 10, 3).loads("loadGrowth(0, 1, 2)", sum(1))
        .loads("loadGrowth(0, 1, 3)", sum(1), sum(2)).loads("loadGrowth(0, 2, 3)", sum(2)));
    EDGES.says("terms: m is one below k, k and one above; 4 leaves", r -> r
        .leaves(0, 10, 4).loads("loadGrowth(0, 1, 4)", sum(1), part(2, 2))
        .loads("loadGrowth(0, 2, 4)", part(2, 2))
        .loads("loadGrowth(0, 3, 4)", sum(2), sum(3), part(0, 2)).loads("loadGrowth(0, 4, 4)"));
    EDGES.says("terms: m is one below k, k and one above; 6 leaves", r -> r
        .leaves(0, 10, 6)
        .loads("loadGrowth(0, 3, 6)", sum(2), sum(3), part(0, 2), part(4, 2))
        .loads("loadGrowth(0, 4, 6)", part(4, 2))
        .loads("loadGrowth(0, 5, 6)", sum(4), sum(5), part(0, 4)));
    EDGES.says("terms: m is above k, of the others and without trust; 7 leaves", r -> r
        .leaves(0, 10, 7).loads("loadGrowth(0, 5, 7)", sum(4), sum(5), sum(6), part(0, 4))
        .loads("loadGrowth(0, 6, 7)", part(4, 2), sum(6), part(0, 4)));
    int[][] bounds = {
      {8, 1}, {8, 7}, {9, 7}, {9, 8}, {16, 15}, {17, 15}, {17, 16}, {64, 31}, {64, 32}, {64, 33},
      {64, 63}, {65, 63}, {65, 64}, {100, 1}, {100, 63}, {100, 64}, {100, 65}, {100, 95},
      {100, 96}, {100, 97}, {100, 98}, {100, 99}, {99, 98}
    };
    for (int[] bound : bounds) {
      int n = bound[0];
      int m = bound[1];
      EDGES.says("terms: the proof of growth from " + m + " to " + n, r -> r
          .leaves(0, 10, n)
          .loads(Calls.told("loadGrowth", 0, m, n), Rows.growthProof(10, n, m))
          .provesJust(Calls.told("testGrowth", 0, m, 0, n)));
    }
  }

  private static void testingOfTerms() {
    EDGES.says("terms: accepted if it has just as many sums; a row of one leaf", r -> r
        .leaves(0, 10, 1).yes("testLeaf(0, 10, 0, 1)").no("testLeaf(0, 11, 0, 1)")
        .due(1, "change(0, 0)").no("testLeaf(0, 10, 0, 1)").due(417375, "root(0, 1)")
        .due(1, "change(0, 417375)").no("testLeaf(0, 10, 0, 1)"));
    EDGES.says("terms: accepted if it has just as many sums; one less, as many, one more", r -> r
        .leaves(0, 10, 7).no("testLeaf(0, 14, 4, 7)").due(3, "loadLeaf(0, 4, 7)")
        .provesJust("testLeaf(0, 14, 4, 7)"));
    EDGES.says("terms: all others are mixed; a proof that was written by hand", r -> r
        .leaves(0, 10, 3).due(1, "change(0, " + sum(0) + ")").due(2, "change(1, " + sum(2) + ")")
        .yes("testLeaf(0, 11, 1, 3)").no("testLeaf(0, 10, 1, 3)", "testLeaf(0, 11, 0, 3)")
        .no("testLeaf(0, 11, 1, 2)", "testLeaf(0, 12, 2, 3)"));
    EDGES.says("terms: a sum of 0 in a row of leaves is mixed like any other", r -> r
        .due(0, "append(0, 19)").due(1, "append(0, 24429)").due(2, "append(0, 19)")
        .due(3, "append(0, 24429)").loads("loadLeaf(0, 0, 4)", Model.leafSum(24429), 0)
        .provesJust("testLeaf(0, 19, 0, 4)").loads("loadLeaf(0, 3, 4)", Model.leafSum(19), 0)
        .provesJust("testLeaf(0, 24429, 3, 4)"));
    EDGES.says("terms: what is worked out is the root; other numbers with as many sums", r -> r
        .leaves(0, 10, 6).due(3, "loadLeaf(0, 2, 6)").yes("testLeaf(0, 12, 2, 6)")
        .no("testLeaf(0, 12, 3, 6)", "testLeaf(0, 12, 1, 6)", "testLeaf(0, 12, 2, 5)")
        .no("testLeaf(0, 11, 2, 6)", "testLeaf(0, 13, 2, 6)", "testLeaf(0, 13, 3, 6)"));
    EDGES.says("terms: leaves alike have proofs alike", r -> r
        .due(0, "append(0, 5)").due(1, "append(0, 5)").due(2, "append(0, 5)")
        .due(3, "append(0, 5)").due(2, "loadLeaf(0, 0, 4)")
        .yes("testLeaf(0, 5, 0, 4)", "testLeaf(0, 5, 1, 4)", "testLeaf(0, 5, 2, 4)")
        .yes("testLeaf(0, 5, 3, 4)").no("testLeaf(0, 5, 0, 3)", "testLeaf(0, 6, 0, 4)"));
  }

  private static void testingGrowthOfTerms() {
    EDGES.says("terms: where m is n the root that is told stands for both", r -> r
        .leaves(0, 10, 5).due(1, "fork(0, 3)").due(5, "appendRow(1, 90, 2)")
        .due(2, "fork(0, 5)").yes("testGrowth(0, 5, 0, 5)", "testGrowth(0, 5, 2, 5)")
        .no("testGrowth(0, 5, 1, 5)", "testGrowth(1, 5, 0, 5)").yes("testGrowth(0, 3, 1, 3)")
        .no("testGrowth(0, 4, 1, 4)", "testGrowth(0, 4, 0, 5)", "testGrowth(0, 5, 1, 5)")
        .due(1, "change(0, 924189)").no("testGrowth(0, 5, 0, 5)", "testGrowth(0, 5, 2, 5)"));
    EDGES.says("terms: with trust the old root has to be that of the old view", r -> r
        .leaves(0, 10, 6).due(1, "fork(0, 3)").due(3, "append(1, 99)").due(1, "loadGrowth(0, 4, 6)")
        .yes("testGrowth(0, 4, 0, 6)").no("testGrowth(1, 4, 0, 6)"));
    EDGES.says("terms: without trust both roots have to be worked out, the old one alone", r -> r
        .leaves(0, 10, 3).due(1, "fork(0, 0)").leaves(1, 50, 6).due(4, "loadGrowth(1, 3, 6)")
        .yes("testGrowth(1, 3, 1, 6)").no("testGrowth(0, 3, 1, 6)"));
    EDGES.says("terms: without trust both roots have to be worked out, the new one alone", r -> r
        .leaves(0, 10, 6).due(1, "fork(0, 3)").due(6, "appendRow(1, 90, 3)")
        .due(4, "loadGrowth(0, 3, 6)").yes("testGrowth(0, 3, 0, 6)", "testGrowth(1, 3, 0, 6)")
        .no("testGrowth(0, 3, 1, 6)", "testGrowth(1, 3, 1, 6)")
        .due(4, "loadGrowth(1, 3, 6)").yes("testGrowth(0, 3, 1, 6)", "testGrowth(1, 3, 1, 6)")
        .no("testGrowth(0, 3, 0, 6)"));
    EDGES.says("terms: a proof that was written by hand, with and without trust", r -> r
        .leaves(0, 10, 4).due(1, "change(0, " + part(2, 2) + ")").yes("testGrowth(0, 2, 0, 4)")
        .due(1, "change(0, " + sum(2) + ")").yes("testGrowth(0, 2, 0, 3)")
        .due(2, "change(1, " + sum(3) + ")").due(3, "change(2, " + part(0, 2) + ")")
        .yes("testGrowth(0, 3, 0, 4)").no("testGrowth(0, 2, 0, 4)", "testGrowth(0, 1, 0, 4)"));
    EDGES.says("terms: the desk has a proof, of at most 12 sums; the longest ones", r -> r
        .leaves(0, 10, 100).due(7, "loadLeaf(0, 0, 100)", "loadLeaf(0, 63, 100)")
        .due(8, "loadGrowth(0, 63, 100)").due(7, "loadGrowth(0, 1, 100)").due(6, "loadKey(0)"));
  }

  private static void loadLeaf() {
    EDGES.says("promise 10: leaf: 0 to size - 1", r -> r
        .leaves(0, 10, 5).due(3, "loadLeaf(0, 0, 5)")
        .bad("loadLeaf(0, -1, 5)", "loadLeaf(0, LOW, 5)", "loadLeaf(0, 5, 5)", "loadLeaf(0, 6, 5)")
        .bad("loadLeaf(0, HIGH, 5)", "loadLeaf(0, 4, 4)", "loadLeaf(0, 1, 1)", "loadLeaf(0, -1, 1)")
        .has(Rows.leafProof(10, 5, 0)).due(1, "loadLeaf(0, 4, 5)").due(2, "loadLeaf(0, 3, 4)")
        .due(0, "loadLeaf(0, 0, 1)"));
    EDGES.says("promise 10: size: 1 to the size of the view", r -> r
        .bad("loadLeaf(0, 0, 1)", "loadLeaf(0, 0, 0)").leaves(0, 10, 5).due(3, "loadLeaf(0, 0, 5)")
        .bad("loadLeaf(0, 0, 0)", "loadLeaf(0, 0, -1)", "loadLeaf(0, 0, LOW)", "loadLeaf(0, 0, 6)")
        .bad("loadLeaf(0, 0, HIGH)", "loadLeaf(0, -1, 0)", "loadLeaf(0, 5, 6)")
        .bad("loadLeaf(0, LOW, LOW)", "loadLeaf(0, HIGH, HIGH)").has(Rows.leafProof(10, 5, 0))
        .due(0, "loadLeaf(0, 0, 1)").due(2, "loadLeaf(0, 0, 4)").due(5, "append(0, 15)")
        .loads("loadLeaf(0, 5, 6)", sum(4), part(0, 4)).bad("loadLeaf(0, 5, 7)"));
    EDGES.says("promise 10: size: that of a full view", r -> r
        .leaves(0, 10, 99).bad("loadLeaf(0, 0, 100)").due(99, "append(0, 109)")
        .loads("loadLeaf(0, 99, 100)", Rows.leafProof(10, 100, 99))
        .bad("loadLeaf(0, 100, 100)", "loadLeaf(0, 0, 101)", "loadLeaf(0, 100, 101)")
        .has(Rows.leafProof(10, 100, 99)));
    EDGES.says("promise 10: IndexOutOfBoundsException if there is no such view, named first", r -> r
        .leaves(0, 10, 5).due(3, "loadLeaf(0, 0, 5)")
        .out("loadLeaf(-1, 0, 1)", "loadLeaf(1, 0, 1)", "loadLeaf(LOW, 0, 1)", "loadLeaf(3, 0, 1)")
        .out("loadLeaf(1, -1, 1)", "loadLeaf(1, 0, 0)", "loadLeaf(-1, 9, 6)")
        .out("loadLeaf(HIGH, 0, 1)", "loadLeaf(HIGH, HIGH, HIGH)")
        .has(Rows.leafProof(10, 5, 0)).due(1, "fork(0, 2)").due(1, "loadLeaf(1, 1, 2)")
        .bad("loadLeaf(1, 0, 3)").out("loadLeaf(2, 0, 1)").has(sum(0)));
    EDGES.says("promise 10: loads the proof in place of what the desk had", r -> r
        .leaves(0, 10, 9).due(6, "loadKey(0)").loads("loadLeaf(0, 8, 9)", part(0, 8))
        .due(4, "loadLeaf(0, 0, 9)").loads("loadLeaf(0, 0, 1)"));
    EDGES.says("promise 10: a loaded proof stays when its view grows", r -> r
        .leaves(0, 10, 3).due(2, "loadLeaf(0, 1, 3)").due(4, "appendRow(0, 900, 1)")
        .has(sum(0), sum(2)).yes("testLeaf(0, 11, 1, 3)").no("testLeaf(0, 11, 1, 4)"));
  }

  private static void loadGrowth() {
    EDGES.says("promise 11: from: 1 to size", r -> r
        .leaves(0, 10, 5).due(1, "loadGrowth(0, 4, 5)")
        .bad("loadGrowth(0, 0, 5)", "loadGrowth(0, -1, 5)", "loadGrowth(0, LOW, 5)")
        .bad("loadGrowth(0, 6, 5)", "loadGrowth(0, HIGH, 5)", "loadGrowth(0, 5, 4)")
        .bad("loadGrowth(0, 2, 1)", "loadGrowth(0, 0, 1)").has(sum(4))
        .due(3, "loadGrowth(0, 1, 5)").due(0, "loadGrowth(0, 5, 5)", "loadGrowth(0, 1, 1)"));
    EDGES.says("promise 11: size: 1 to the size of the view", r -> r
        .bad("loadGrowth(0, 1, 1)", "loadGrowth(0, 0, 0)").leaves(0, 10, 5)
        .due(1, "loadGrowth(0, 4, 5)").bad("loadGrowth(0, 1, 0)", "loadGrowth(0, 0, 0)")
        .bad("loadGrowth(0, 1, -1)", "loadGrowth(0, 1, LOW)", "loadGrowth(0, 1, 6)")
        .bad("loadGrowth(0, 6, 6)", "loadGrowth(0, 1, HIGH)", "loadGrowth(0, HIGH, HIGH)")
        .bad("loadGrowth(0, LOW, LOW)", "loadGrowth(0, -1, -1)").has(sum(4))
        .due(0, "loadGrowth(0, 1, 1)").due(1, "loadGrowth(0, 1, 2)").due(0, "loadGrowth(0, 5, 5)"));
    EDGES.says("promise 11: size: that of a full view", r -> r
        .leaves(0, 10, 99).bad("loadGrowth(0, 99, 100)", "loadGrowth(0, 100, 100)")
        .due(99, "append(0, 109)").loads("loadGrowth(0, 99, 100)", Rows.growthProof(10, 100, 99))
        .bad("loadGrowth(0, 101, 101)", "loadGrowth(0, 100, 101)", "loadGrowth(0, 101, 100)")
        .has(Rows.growthProof(10, 100, 99)).loads("loadGrowth(0, 100, 100)"));
    EDGES.says("promise 11: IndexOutOfBoundsException if there is no such view, named first", r -> r
        .leaves(0, 10, 5).due(1, "loadGrowth(0, 4, 5)")
        .out("loadGrowth(-1, 1, 1)", "loadGrowth(1, 1, 1)", "loadGrowth(LOW, 1, 1)")
        .out("loadGrowth(HIGH, 1, 1)", "loadGrowth(1, 0, 0)", "loadGrowth(-1, 0, 6)")
        .has(sum(4)).due(1, "fork(0, 2)").due(1, "loadGrowth(1, 1, 2)").bad("loadGrowth(1, 1, 3)")
        .out("loadGrowth(2, 1, 1)", "loadGrowth(3, 1, 1)").has(sum(1)));
    EDGES.says("promise 11: loads the proof in place of what the desk had", r -> r
        .leaves(0, 10, 9).due(6, "loadKey(0)").loads("loadGrowth(0, 8, 9)", sum(8))
        .due(5, "loadGrowth(0, 7, 9)").loads("loadGrowth(0, 9, 9)"));
  }

  private static void change() {
    EDGES.says("promise 13: place: 0 to the number of its sums", r -> r
        .out("change(-1, 5)", "change(1, 5)", "change(LOW, 5)", "change(HIGH, 5)").has()
        .due(1, "change(0, 5)").out("change(2, 5)", "change(-1, 5)").has(5).due(2, "change(1, 6)")
        .due(2, "change(0, 7)", "change(1, 8)").out("change(3, 5)").has(7, 8)
        .due(6, "loadKey(0)").out("change(7, 5)", "change(12, 5)", "change(13, 5)")
        .due(6, "change(5, 4)").due(7, "change(6, 3)").has(0, 0, 0, 0, 0, 4, 3));
    EDGES.says("promise 13: sum: 0 to 1000002", r -> r
        .bad("change(0, -1)", "change(0, LOW)", "change(0, 1000003)", "change(0, 1000004)")
        .bad("change(0, HIGH)").has().due(1, "change(0, 0)").due(2, "change(1, 1)")
        .due(3, "change(2, 1000001)").due(4, "change(3, 1000002)")
        .bad("change(0, -1)", "change(0, 1000003)", "change(4, 1000003)", "change(4, -1)")
        .has(0, 1, 1000001, 1000002));
    EDGES.says("promise 13: IllegalStateException if it would have more than 12 sums", r -> {
      for (int place = 0; place < 12; place++) {
        r.due(place + 1, Calls.told("change", place, 50 + place));
      }
      r.state("change(12, 9)", "change(12, 0)", "change(12, 1000002)").due(12, "change(11, 9)");
      r.due(12, "change(0, 8)").out("change(13, 9)").due(9, "shorten()").due(12, "change(11, 7)");
      r.state("change(12, 9)").has(8, 51, 52, 53, 54, 55, 56, 57, 58, 59, 60, 7);
    });
    EDGES.says("promise 13: what the throws clause names first", r -> {
      r.out("change(1, -1)", "change(-1, 1000003)");
      for (int place = 0; place < 12; place++) {
        r.due(place + 1, Calls.told("change", place, place));
      }
      r.out("change(13, -1)", "change(13, 0)", "change(-1, -1)", "change(HIGH, HIGH)");
      r.bad("change(12, -1)", "change(12, 1000003)", "change(11, -1)").state("change(12, 5)");
      r.has(0, 1, 2, 3, 4, 5, 6, 7, 8, 9, 10, 11);
    });
    EDGES.says("promise 13: returns how many sums it has then", r -> r
        .due(1, "change(0, 5)").due(1, "change(0, 6)").due(2, "change(1, 5)")
        .due(2, "change(0, 5)"));
  }

  private static void shortenAndSums() {
    EDGES.says("promise 14: IllegalStateException if it has none", r -> r
        .state("shorten()").has().due(1, "change(0, 5)").due(5, "shorten()").state("shorten()")
        .has().due(1, "change(0, 6)").has(6).leaves(0, 10, 1).due(0, "loadLeaf(0, 0, 1)")
        .state("shorten()"));
    EDGES.says("promise 14: takes the last sum off, returns the sum", r -> r
        .due(1, "change(0, 0)").due(2, "change(1, 1000002)").due(1000002, "shorten()").has(0)
        .due(0, "shorten()").has());
    EDGES.says("promise 14: from 12 sums down to none", r -> {
      for (int place = 0; place < 12; place++) {
        r.due(place + 1, Calls.told("change", place, 50 + place));
      }
      for (int place = 11; place >= 0; place--) {
        r.due(50 + place, "shorten()").due(place, "sums()").out("sumAt(" + place + ")");
      }
      r.state("shorten()");
    });
    EDGES.says("promise 15: returns how many sums the proof has, 0 to 12", r -> {
      r.due(0, "sums()").state("shorten()").out("change(1, 1)").due(0, "sums()");
      for (int place = 0; place < 12; place++) {
        r.due(place + 1, Calls.told("change", place, 0)).due(place + 1, "sums()");
      }
      r.state("change(12, 0)").due(12, "sums()").due(0, "shorten()").due(11, "sums()");
    });
    EDGES.says("promise 16: IndexOutOfBoundsException if it has no such place", r -> {
      r.out("sumAt(0)", "sumAt(-1)", "sumAt(LOW)", "sumAt(HIGH)").due(1, "change(0, 5)");
      r.due(5, "sumAt(0)").out("sumAt(1)", "sumAt(-1)").due(6, "loadKey(0)");
      r.due(0, "sumAt(5)").out("sumAt(6)", "sumAt(11)");
      for (int place = 6; place < 12; place++) {
        r.due(place + 1, Calls.told("change", place, 50 + place));
      }
      r.due(61, "sumAt(11)").out("sumAt(12)", "sumAt(13)", "sumAt(-1)").due(61, "shorten()");
      r.due(60, "sumAt(10)").out("sumAt(11)");
    });
  }

  private static void testLeaf() {
    EDGES.says("promise 17: value: 0 to 65535, both accepted where they are", r -> r
        .due(0, "append(0, 0)").due(1, "append(0, 65535)").due(1, "loadLeaf(0, 0, 2)")
        .yes("testLeaf(0, 0, 0, 2)").no("testLeaf(0, 1, 0, 2)", "testLeaf(0, 65535, 0, 2)")
        .bad("testLeaf(0, -1, 0, 2)", "testLeaf(0, 65536, 0, 2)", "testLeaf(0, LOW, 0, 2)")
        .bad("testLeaf(0, HIGH, 0, 2)").due(1, "loadLeaf(0, 1, 2)").yes("testLeaf(0, 65535, 1, 2)")
        .no("testLeaf(0, 65534, 1, 2)", "testLeaf(0, 0, 1, 2)", "testLeaf(0, 65535, 0, 2)"));
    EDGES.says("promise 17: by the root that the first ones of the view have", r -> r
        .leaves(0, 10, 5).due(1, "fork(0, 3)").due(3, "append(1, 99)").due(2, "fork(0, 5)")
        .due(2, "loadLeaf(0, 1, 3)").yes("testLeaf(0, 11, 1, 3)", "testLeaf(1, 11, 1, 3)")
        .yes("testLeaf(2, 11, 1, 3)").due(2, "loadLeaf(0, 1, 4)")
        .yes("testLeaf(0, 11, 1, 4)", "testLeaf(2, 11, 1, 4)").no("testLeaf(1, 11, 1, 4)")
        .due(5, "append(0, 44)").yes("testLeaf(0, 11, 1, 4)"));
    EDGES.says("promise 17: whether it is accepted, for the first and the last leaf of 100", r -> r
        .leaves(0, 10, 100).due(7, "loadLeaf(0, 0, 100)").yes("testLeaf(0, 10, 0, 100)")
        .no("testLeaf(0, 11, 0, 100)", "testLeaf(0, 10, 0, 99)", "testLeaf(0, 10, 1, 100)")
        .due(4, "loadLeaf(0, 99, 100)").yes("testLeaf(0, 109, 99, 100)")
        .no("testLeaf(0, 108, 99, 100)", "testLeaf(0, 108, 98, 100)"));
  }

  private static void testLeafRanges() {
    EDGES.says("promise 17: leaf: 0 to size - 1", r -> r
        .leaves(0, 10, 5).due(1, "loadLeaf(0, 4, 5)").yes("testLeaf(0, 14, 4, 5)")
        .bad("testLeaf(0, 14, 5, 5)", "testLeaf(0, 14, -1, 5)", "testLeaf(0, 14, LOW, 5)")
        .bad("testLeaf(0, 14, HIGH, 5)", "testLeaf(0, 14, 4, 4)", "testLeaf(0, 10, 1, 1)")
        .no("testLeaf(0, 10, 0, 5)").due(0, "loadLeaf(0, 0, 1)").yes("testLeaf(0, 10, 0, 1)"));
    EDGES.says("promise 17: size: 1 to the size of the view", r -> r
        .bad("testLeaf(0, 0, 0, 1)", "testLeaf(0, 0, 0, 0)").leaves(0, 10, 5)
        .yes("testLeaf(0, 10, 0, 1)").due(3, "loadLeaf(0, 0, 5)").yes("testLeaf(0, 10, 0, 5)")
        .bad("testLeaf(0, 10, 0, 6)", "testLeaf(0, 10, 0, 0)", "testLeaf(0, 10, 0, -1)")
        .bad("testLeaf(0, 10, 0, LOW)", "testLeaf(0, 10, 0, HIGH)", "testLeaf(0, 10, -1, 0)")
        .bad("testLeaf(0, 10, 5, 6)").due(1, "fork(0, 4)").bad("testLeaf(1, 10, 0, 5)")
        .no("testLeaf(1, 10, 0, 4)").yes("testLeaf(0, 10, 0, 5)"));
    EDGES.says("promise 17: IndexOutOfBoundsException if there is no such view, named first", r -> r
        .leaves(0, 10, 1).yes("testLeaf(0, 10, 0, 1)")
        .out("testLeaf(1, 10, 0, 1)", "testLeaf(-1, 10, 0, 1)", "testLeaf(LOW, 10, 0, 1)")
        .out("testLeaf(HIGH, 10, 0, 1)", "testLeaf(1, -1, 0, 1)", "testLeaf(1, 10, -1, 1)")
        .out("testLeaf(1, 10, 0, 0)", "testLeaf(3, 65536, 9, 9)").due(1, "fork(0, 1)")
        .yes("testLeaf(1, 10, 0, 1)").out("testLeaf(2, 10, 0, 1)").due(2, "fork(0, 1)")
        .yes("testLeaf(2, 10, 0, 1)").out("testLeaf(3, 10, 0, 1)"));
  }

  private static void testGrowth() {
    EDGES.says("promise 18: the view with the first leaves may be another one", r -> r
        .leaves(0, 10, 4).due(1, "fork(0, 4)").due(6, "appendRow(1, 90, 2)")
        .due(1, "loadGrowth(1, 4, 6)").yes("testGrowth(0, 4, 1, 6)", "testGrowth(1, 4, 1, 6)")
        .no("testGrowth(0, 3, 1, 6)", "testGrowth(0, 4, 1, 5)", "testGrowth(1, 5, 1, 6)")
        .due(4, "append(0, 90)")
        .due(3, "loadGrowth(1, 5, 6)").yes("testGrowth(0, 5, 1, 6)", "testGrowth(1, 5, 1, 6)"));
    EDGES.says("promise 18: from: to the size of the old view, which is the lesser one", r -> r
        .leaves(0, 10, 3).due(1, "fork(0, 3)").due(6, "appendRow(1, 13, 3)")
        .due(4, "loadGrowth(1, 3, 6)").yes("testGrowth(0, 3, 1, 6)").bad("testGrowth(0, 4, 1, 6)")
        .due(1, "loadGrowth(1, 4, 6)").bad("testGrowth(0, 4, 1, 6)").yes("testGrowth(1, 4, 1, 6)")
        .due(3, "append(0, 13)").yes("testGrowth(0, 4, 1, 6)").bad("testGrowth(0, 5, 1, 6)")
        .bad("testGrowth(0, HIGH, 1, 6)"));
    EDGES.says("promise 18: from: to size, where the old view is the greater one", r -> r
        .leaves(0, 10, 6).due(1, "fork(0, 3)").due(0, "loadGrowth(0, 3, 3)")
        .yes("testGrowth(0, 3, 1, 3)").bad("testGrowth(0, 4, 1, 3)", "testGrowth(0, 6, 1, 3)")
        .bad("testGrowth(0, 4, 1, 4)", "testGrowth(0, 3, 0, 2)").yes("testGrowth(0, 2, 1, 2)"));
    EDGES.says("promise 18: from: to the size of an old view without leaves", r -> r
        .leaves(0, 10, 2).due(1, "fork(0, 0)").due(1, "loadGrowth(0, 1, 2)")
        .yes("testGrowth(0, 1, 0, 2)").bad("testGrowth(1, 1, 0, 2)", "testGrowth(1, 0, 0, 2)")
        .bad("testGrowth(0, 1, 1, 1)", "testGrowth(0, 0, 1, 0)"));
  }

  private static void testGrowthRanges() {
    EDGES.says("promise 18: from: 1 to size", r -> r
        .leaves(0, 10, 5).due(3, "loadGrowth(0, 1, 5)").yes("testGrowth(0, 1, 0, 5)")
        .bad("testGrowth(0, 0, 0, 5)", "testGrowth(0, -1, 0, 5)", "testGrowth(0, LOW, 0, 5)")
        .bad("testGrowth(0, 6, 0, 5)", "testGrowth(0, HIGH, 0, 5)", "testGrowth(0, 5, 0, 4)")
        .due(0, "loadGrowth(0, 5, 5)").yes("testGrowth(0, 5, 0, 5)", "testGrowth(0, 1, 0, 1)"));
    EDGES.says("promise 18: size: 1 to the size of that view", r -> r
        .bad("testGrowth(0, 1, 0, 1)", "testGrowth(0, 0, 0, 0)").leaves(0, 10, 5)
        .yes("testGrowth(0, 1, 0, 1)", "testGrowth(0, 5, 0, 5)").due(1, "fork(0, 4)")
        .bad("testGrowth(0, 1, 0, 0)", "testGrowth(0, 1, 0, -1)", "testGrowth(0, 0, 0, 0)")
        .bad("testGrowth(0, 1, 0, LOW)", "testGrowth(0, 1, 0, 6)", "testGrowth(0, 1, 0, HIGH)")
        .bad("testGrowth(0, 4, 1, 5)", "testGrowth(0, LOW, 0, LOW)", "testGrowth(0, 6, 0, 6)")
        .yes("testGrowth(0, 4, 1, 4)"));
    EDGES.says("promise 18: sizes of full views", r -> r
        .leaves(0, 10, 100).due(1, "fork(0, 99)").due(5, "loadGrowth(0, 99, 100)")
        .yes("testGrowth(0, 99, 0, 100)", "testGrowth(1, 99, 0, 100)")
        .bad("testGrowth(1, 100, 0, 100)", "testGrowth(0, 99, 1, 100)", "testGrowth(0, 99, 0, 101)")
        .bad("testGrowth(0, 101, 0, 100)", "testGrowth(0, 101, 0, 101)")
        .due(0, "loadGrowth(0, 100, 100)").yes("testGrowth(0, 100, 0, 100)"));
    EDGES.says("promise 18: IndexOutOfBoundsException if there is no such view, named first", r -> r
        .leaves(0, 10, 2).due(1, "loadGrowth(0, 1, 2)").yes("testGrowth(0, 1, 0, 2)")
        .out("testGrowth(1, 1, 0, 2)", "testGrowth(0, 1, 1, 2)", "testGrowth(-1, 1, 0, 2)")
        .out("testGrowth(0, 1, -1, 2)", "testGrowth(LOW, 1, 0, 2)", "testGrowth(0, 1, HIGH, 2)")
        .out("testGrowth(1, 0, 0, 2)", "testGrowth(0, 0, 1, 2)", "testGrowth(0, 3, 1, 3)")
        .out("testGrowth(1, 1, 0, 0)", "testGrowth(0, 1, -1, 0)", "testGrowth(1, 1, 1, 2)")
        .due(1, "fork(0, 2)").yes("testGrowth(1, 1, 0, 2)", "testGrowth(0, 1, 1, 2)")
        .out("testGrowth(2, 1, 0, 2)", "testGrowth(0, 1, 2, 2)").due(2, "fork(0, 2)")
        .yes("testGrowth(2, 1, 1, 2)", "testGrowth(1, 1, 2, 2)")
        .out("testGrowth(3, 1, 0, 2)", "testGrowth(0, 1, 3, 2)"));
  }
}
