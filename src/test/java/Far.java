/** Makes bounds far beyond 10^9 in few calls: name 1 less name 2, and that less name 3, is twice as much. */
final class Far {
  static final long LIMIT = 1000000000000000L;
  private static final long GIVEN = 1000000000L;

  private Far() {
  }

  /** Shape s becomes: name 1 less name 2 is at most v, and no other row; of three names or more. Spare is all then. */
  static void apart(LinearRows r, int s, int spare, long v) {
    int sign = v < 0 ? -1 : 1;
    long size = Math.abs(v);
    int digits = 0;
    while (size >> digits > GIVEN) {
      digits++;
    }
    r.all(s);
    r.row(s, 1, -2, sign * (size >> digits));
    for (int digit = digits - 1; digit >= 0; digit--) {
      twice(r, s, spare);
      if ((size >> digit & 1) == 1) {
        r.set(s, 1, 1, sign);
      }
    }
    r.all(spare);
  }

  /** Shape s, with a row of name 1 less name 2 alone, becomes: that is at most twice as much. */
  static void twice(LinearRows r, int s, int spare) {
    r.copy(spare, s);
    r.set(spare, 3, 2, 0);
    r.set(spare, 2, 1, 0);
    r.forget(spare, 1);
    r.meet(s, s, spare);
    r.set(s, 2, 3, 0);
    r.forget(s, 3);
  }

  /** Shape s becomes: the term is at most v, and no other row. */
  static void atMost(LinearRows r, int s, int spare, int term, long v) {
    int other = Math.abs(term) == 1 ? 2 : 1;
    atMost(r, s, spare, term, -other, v);
    r.row(s, other, 0, 0);
    r.forget(s, other);
  }

  /** Shape s becomes: the terms a and b, of different names, are together at most v, and no other row. */
  static void atMost(LinearRows r, int s, int spare, int a, int b, long v) {
    int low = Math.abs(a) < Math.abs(b) ? a : b;
    int high = low == a ? b : a;
    apart(r, s, spare, v);
    moveTo(r, s, 2, Math.abs(high));
    moveTo(r, s, 1, Math.abs(low));
    if (low < 0) {
      turn(r, s, -low);
    }
    if (high > 0) {
      turn(r, s, high);
    }
  }

  private static void moveTo(LinearRows r, int s, int name, int other) {
    if (name != other) {
      r.set(s, other, name, 0);
      r.forget(s, name);
    }
  }

  private static void turn(LinearRows r, int s, int name) {
    r.set(s, name, -name, 0);
  }
}
