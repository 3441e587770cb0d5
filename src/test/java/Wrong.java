/** Numbers that name nothing, or are not as told, whatever the state is. */
final class Wrong {
  static final int MIN = Integer.MIN_VALUE, MAX = Integer.MAX_VALUE;
  static final int[] COLUMNS = {-1, 4, 5, MIN, MAX};
  static final int[] LINES = {-1, 64, 65, MIN, MAX};
  static final int[] SIZES = {-2, -1, 0, 1, 33, MIN, MAX};
  static final int[] WEIGHTS = {-1, 10, MIN, MAX};
  static final int[] QUESTIONS = {-1, 8, MIN, MAX};
  /** Orders beside permutations: figures twice, more than four of them, below 0. */
  static final int[] ORDERS = {-1, 0, 26, 28, 255, 256, 256 + 27, -229, MIN, MAX};

  private Wrong() {
  }
}
