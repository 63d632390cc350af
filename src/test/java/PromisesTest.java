/** Each promise by examples: ordinary inputs, the edges that the document names, wrong inputs. */
public final class PromisesTest {
  private static final long ENDLESS = LinearRows.ENDLESS;
  private static final long GIVEN = 1000000000L;
  private static final long LIMIT = 1000000000000000L;
  private static final Class<IndexOutOfBoundsException> INDEX = IndexOutOfBoundsException.class;
  private static final Class<IllegalArgumentException> ARGUMENT = IllegalArgumentException.class;
  private static final Class<ArithmeticException> ARITHMETIC = ArithmeticException.class;
  private static final int[] NO_SHAPES = {-1, 8, Integer.MIN_VALUE, Integer.MAX_VALUE};

  public static void main(String[] args) {
    Checks.each(
        PromisesTest::promise1NewObject,
        PromisesTest::promise2All,
        PromisesTest::promise3Row,
        PromisesTest::promise3RowThrows,
        PromisesTest::promise4Bound,
        PromisesTest::promise5Kept,
        PromisesTest::promise6Meet,
        PromisesTest::promise7Join,
        PromisesTest::promise8Widen,
        PromisesTest::promise9Narrow,
        PromisesTest::promise10Copy,
        PromisesTest::promise11Set,
        PromisesTest::promise11SetThrows,
        PromisesTest::promise12Forget,
        PromisesTest::promise13Within,
        PromisesTest::promise14Put15Point,
        PromisesTest::promise16Has,
        PromisesTest::promise17Sample,
        PromisesTest::promise18Needed19Needs,
        PromisesTest::promise20Fits,
        PromisesTest::promise21Array,
        PromisesTest::promise22Told,
        PromisesTest::noSuchShape,
        PromisesTest::noSuchName,
        PromisesTest::noSuchTerm,
        PromisesTest::limitOfBounds,
        PromisesTest::limitBelow,
        PromisesTest::limitInWidenAndNarrow,
        PromisesTest::farContradictions);
  }

  private static LinearRows box(int n, long least, long most) {
    LinearRows r = new LinearRows(n);
    for (int name = 1; name <= n; name++) {
      r.row(0, name, 0, most);
      r.row(0, -name, 0, -least);
    }
    return r;
  }

  private static void makeEmpty(LinearRows r, int s) {
    r.row(s, 0, 0, -1);
  }

  private static void between(LinearRows r, int s, int name, long least, long most) {
    r.row(s, name, 0, most);
    r.row(s, -name, 0, -least);
  }

  private static void promise1NewObject() {
    for (int n = 1; n <= 5; n++) {
      Checks.due("names of new(" + n + ")", n, new LinearRows(n).told(0));
    }
    Checks.due("names of new(0)", 1, new LinearRows(0).told(0));
    Checks.due("names of new(-7)", 1, new LinearRows(-7).told(0));
    Checks.due("names of new(MIN)", 1, new LinearRows(Integer.MIN_VALUE).told(0));
    Checks.due("names of new(6)", 5, new LinearRows(6).told(0));
    Checks.due("names of new(MAX)", 5, new LinearRows(Integer.MAX_VALUE).told(0));
    LinearRows r = new LinearRows(5);
    for (int s = 0; s < 8; s++) {
      Checks.due("at first all points", ENDLESS, r.bound(s, 5, -1));
      Checks.due("at first no kept rows", 0, r.told(1 + s));
    }
    Checks.due("at first none is empty", 0, r.told(9));
    Checks.due("at first the point is 0", 0, r.point(5));
  }

  private static void promise2All() {
    LinearRows r = box(2, 0, 4);
    r.all(0);
    Checks.due("all: bound", ENDLESS, r.bound(0, 1, 0));
    Checks.due("all: bound of two", ENDLESS, r.bound(0, 1, -2));
    Checks.due("all: kept rows", 0, r.told(1));
    Checks.due("all: opposite terms", 0, r.bound(0, 1, -1));
    makeEmpty(r, 3);
    r.all(3);
    Checks.due("all of an empty one", 0, r.told(9));
    Checks.due("all of an empty one: bound", ENDLESS, r.bound(3, -2, 0));
  }

  private static void promise3Row() {
    LinearRows r = new LinearRows(3);
    Checks.due("row", 1, r.row(0, 1, -2, 3));
    Checks.due("row", 1, r.row(0, 0, 2, 4));
    Checks.due("chained bound", 7, r.bound(0, 1, 0));
    Checks.due("term alone in the second place is kept", 4, r.kept(0, 2, 0));
    Checks.due("row twice", 1, r.row(1, -3, -3, -5));
    Checks.due("twice at most -5, cut downwards", -3, r.kept(1, -3, 0));
    Checks.due("opposite terms, 0", 1, r.row(1, 3, -3, 0));
    Checks.due("opposite terms are not kept", 1, r.told(2));
    Checks.due("no terms, 0", 1, r.row(1, 0, 0, 0));
    Checks.due("no terms are not kept", 1, r.told(2));
    Checks.due("opposite terms below 0", 0, r.row(1, 3, -3, -1));
    Checks.due("empty: no kept rows", 0, r.told(2));
    Checks.due("row of an empty one", 0, r.row(1, 1, 0, 5));
    Checks.due("empty stays without kept rows", 0, r.told(2));
    Checks.due("no terms below 0", 0, r.row(2, 0, 0, -GIVEN));
    between(r, 3, 1, 1, 1);
    Checks.due("contradiction", 0, r.row(3, 1, 0, 0));
    r.row(4, 1, 2, 1);
    r.row(4, -1, -2, -1);
    r.row(4, 1, -2, 0);
    Checks.due("1 + 2 is 1 and 1 = 2: no whole numbers", 0, r.row(4, -1, 2, 0));
    r.row(5, 1, 2, GIVEN);
    Checks.due("c at its end", 1, r.row(5, -1, -2, -GIVEN));
    Checks.due("bound at the end", -GIVEN, r.bound(5, -2, -1));
    r.row(6, 1, 2, 1);
    r.row(6, 1, -2, 0);
    r.row(6, 3, -1, 0);
    Checks.due("cut halves go on into sums", 0, r.bound(6, 3, 0));
  }

  private static void promise3RowThrows() {
    LinearRows r = box(2, 0, 4);
    Checks.dueThrow("c above", ARGUMENT, () -> r.row(0, 1, 0, GIVEN + 1));
    Checks.dueThrow("c below", ARGUMENT, () -> r.row(0, 1, 0, -GIVEN - 1));
    Checks.dueThrow("c far above", ARGUMENT, () -> r.row(0, 1, 0, Long.MAX_VALUE));
    Checks.dueThrow("c far below", ARGUMENT, () -> r.row(0, 1, 0, Long.MIN_VALUE));
    Checks.dueThrow("index before argument", INDEX, () -> r.row(8, 1, 0, GIVEN + 1));
    Checks.dueThrow("term before argument", INDEX, () -> r.row(0, 0, 3, GIVEN + 1));
    makeEmpty(r, 1);
    Checks.dueThrow("c above for an empty one", ARGUMENT, () -> r.row(1, 1, 0, GIVEN + 1));
    Checks.due("nothing changed", 4, r.told(1));
    Checks.due("nothing changed", 4, r.bound(0, 1, 0));
  }

  private static void promise4Bound() {
    LinearRows r = new LinearRows(2);
    between(r, 0, 1, -2, 5);
    Checks.due("one term", 5, r.bound(0, 1, 0));
    Checks.due("one term, second", 5, r.bound(0, 0, 1));
    Checks.due("less the name", 2, r.bound(0, -1, 0));
    Checks.due("twice", 10, r.bound(0, 1, 1));
    Checks.due("twice less", 4, r.bound(0, -1, -1));
    Checks.due("opposite", 0, r.bound(0, -1, 1));
    Checks.due("opposite, endless", 0, r.bound(0, 2, -2));
    Checks.due("none", 0, r.bound(0, 0, 0));
    Checks.due("endless one", ENDLESS, r.bound(0, 2, 0));
    Checks.due("endless twice", ENDLESS, r.bound(0, -2, -2));
    Checks.due("endless two", ENDLESS, r.bound(0, 1, 2));
    makeEmpty(r, 1);
    Checks.due("empty", -ENDLESS, r.bound(1, 1, 0));
    Checks.due("empty, none", -ENDLESS, r.bound(1, 0, 0));
    Checks.due("empty, opposite", -ENDLESS, r.bound(1, 1, -1));
    Checks.due("empty, twice", -ENDLESS, r.bound(1, 2, 2));
    r.row(2, 1, 2, 5);
    r.row(2, 1, -2, 2);
    Checks.due("halved to a whole number", 3, r.bound(2, 1, 0));
    Checks.due("in the other order", 5, r.bound(2, 2, 1));
  }

  private static void promise5Kept() {
    LinearRows r = new LinearRows(3);
    r.row(0, 1, 0, 5);
    r.row(0, 2, 0, 5);
    r.row(0, 1, 2, 100);
    r.row(0, 1, 0, 9);
    Checks.due("the least c", 5, r.kept(0, 1, 0));
    Checks.due("kept though it says nothing", 100, r.kept(0, 2, 1));
    Checks.due("its bound", 10, r.bound(0, 2, 1));
    Checks.due("count", 3, r.told(1));
    Checks.due("none", ENDLESS, r.kept(0, 3, 0));
    Checks.due("twice", ENDLESS, r.kept(0, 1, 1));
    Checks.due("opposite", ENDLESS, r.kept(0, 1, -1));
    Checks.due("no terms", ENDLESS, r.kept(0, 0, 0));
    r.row(0, 0, 1, 3);
    Checks.due("a lesser c", 3, r.kept(0, 0, 1));
    r.row(0, 1, 1, 5);
    Checks.due("a lesser c by the term twice", 2, r.kept(0, 1, 0));
    makeEmpty(r, 0);
    Checks.due("empty has none", ENDLESS, r.kept(0, 1, 0));
  }

  private static void promise6Meet() {
    LinearRows r = new LinearRows(2);
    between(r, 0, 1, 0, 5);
    r.row(1, 2, -1, 1);
    r.row(1, 1, 0, 3);
    Checks.due("meet", 1, r.meet(2, 0, 1));
    Checks.due("bound", 4, r.bound(2, 2, 0));
    Checks.due("all bounds are kept", 4, r.kept(2, 2, 0));
    Checks.due("all bounds are kept", 7, r.kept(2, 1, 2));
    Checks.due("their count", 5, r.told(3));
    Checks.due("the others stay", 5, r.bound(0, 1, 0));
    Checks.due("opposite terms are not kept", ENDLESS, r.kept(2, 1, -1));
    between(r, 3, 1, 4, 9);
    Checks.due("disjoint", 0, r.meet(3, 3, 1));
    Checks.due("disjoint: empty", 1, r.told(9));
    Checks.due("with an empty one", 0, r.meet(0, 0, 3));
    Checks.due("with an empty one, turned", 0, r.meet(2, 3, 2));
    Checks.due("empty", 3, r.told(9));
    r.row(4, 1, 0, 5);
    r.row(4, 2, 0, 5);
    Checks.due("with itself", 1, r.meet(4, 4, 4));
    Checks.due("closed by that", 10, r.kept(4, 1, 2));
  }

  private static void promise7Join() {
    LinearRows r = new LinearRows(2);
    between(r, 0, 1, 0, 1);
    between(r, 0, 2, 0, 1);
    between(r, 1, 1, 4, 5);
    between(r, 1, 2, 4, 5);
    Checks.due("join", 1, r.join(2, 0, 1));
    Checks.due("bound", 5, r.bound(2, 1, 0));
    Checks.due("difference", 1, r.bound(2, 1, -2));
    Checks.due("sum", 10, r.bound(2, 1, 2));
    Checks.due("all kept", 8, r.told(3));
    makeEmpty(r, 3);
    Checks.due("of an empty one", 1, r.join(4, 3, 0));
    Checks.due("closed", 2, r.kept(4, 1, 2));
    Checks.due("by an empty one, in place", 1, r.join(1, 1, 3));
    Checks.due("closed", 1, r.kept(1, 1, -2));
    Checks.due("of two empty ones", 0, r.join(0, 3, 3));
    Checks.due("empty", 2, r.told(9));
    Checks.due("with all points", 1, r.join(5, 4, 7));
    Checks.due("no rows", 0, r.told(6));
  }

  private static void promise8Widen() {
    LinearRows r = new LinearRows(2);
    between(r, 0, 1, 0, 1);
    r.row(0, 2, 0, 5);
    r.row(0, 1, 2, 50);
    between(r, 1, 1, 0, 2);
    r.row(1, 2, 0, 9);
    Checks.due("widen", 1, r.widen(2, 0, 1));
    Checks.due("gone", ENDLESS, r.bound(2, 1, 0));
    Checks.due("left", 0, r.kept(2, -1, 0));
    Checks.due("gone", ENDLESS, r.kept(2, 2, 0));
    Checks.due("left, the kept c and not the bound", 50, r.kept(2, 1, 2));
    Checks.due("follows from what is left", 50, r.bound(2, 2, 0));
    Checks.due("two are left", 2, r.told(3));
    makeEmpty(r, 3);
    Checks.due("of an empty one", 1, r.widen(4, 3, 0));
    Checks.due("with the kept rows of that", 4, r.told(5));
    Checks.due("by an empty one", 1, r.widen(5, 0, 3));
    Checks.due("stays", 4, r.told(6));
    Checks.due("stays", 50, r.kept(5, 1, 2));
    Checks.due("both empty", 0, r.widen(6, 3, 3));
    Checks.due("both empty", 2, r.told(9));
    Checks.due("in place", 1, r.widen(1, 0, 1));
    Checks.due("in place", 2, r.told(2));
  }

  private static void promise9Narrow() {
    LinearRows r = new LinearRows(2);
    r.row(0, -1, 0, 0);
    r.row(0, 1, 2, 9);
    between(r, 1, 1, 2, 6);
    between(r, 1, 2, -1, 3);
    Checks.due("narrow", 1, r.narrow(2, 0, 1));
    Checks.due("stays", 0, r.kept(2, -1, 0));
    Checks.due("comes", 6, r.kept(2, 1, 0));
    Checks.due("was bounded though not kept", ENDLESS, r.kept(2, 2, 0));
    Checks.due("bound stays", 9, r.bound(2, 2, 0));
    Checks.due("comes", 7, r.kept(2, 1, -2));
    Checks.due("sum comes with the other one's bound", -1, r.kept(2, -1, -2));
    r.row(3, 1, 0, 0);
    r.row(4, -1, 0, -1);
    Checks.due("nothing in common", 0, r.narrow(5, 3, 4));
    Checks.due("empty", ENDLESS, r.kept(5, 1, 0));
    Checks.due("of an empty one", 0, r.narrow(6, 5, 0));
    Checks.due("by an empty one", 0, r.narrow(7, 0, 5));
    Checks.due("empty", 3, r.told(9));
    Checks.due("in place", 1, r.narrow(1, 0, 1));
    Checks.due("in place", 7, r.kept(1, 1, -2));
    Checks.due("other rows are not met", 0, r.kept(1, -1, 0));
  }

  private static void promise10Copy() {
    LinearRows r = new LinearRows(2);
    r.row(0, 1, 0, 5);
    r.row(0, 2, 0, 5);
    r.copy(1, 0);
    Checks.due("kept rows of the other one", 2, r.told(2));
    Checks.due("bound", 10, r.bound(1, 1, 2));
    r.row(1, 1, 0, 1);
    Checks.due("apart", 5, r.bound(0, 1, 0));
    r.copy(1, 1);
    Checks.due("itself", 1, r.kept(1, 1, 0));
    makeEmpty(r, 2);
    r.copy(1, 2);
    Checks.due("empty", 2, r.told(9));
    Checks.due("empty", 0, r.told(2));
    r.copy(1, 0);
    Checks.due("no more empty", 1, r.told(9));
  }

  private static void promise11Set() {
    LinearRows r = new LinearRows(3);
    between(r, 0, 1, 1, 4);
    r.row(0, 2, -1, 0);
    Checks.due("a number", 1, r.set(0, 3, 0, -7));
    Checks.due("a number", -7, r.bound(0, 3, 0));
    Checks.due("a number", 7, r.bound(0, -3, 0));
    Checks.due("beside another", -3, r.kept(0, 1, 3));
    Checks.due("itself and more", 1, r.set(0, 1, 1, 10));
    Checks.due("greatest", 14, r.bound(0, 1, 0));
    Checks.due("least", -11, r.bound(0, -1, 0));
    Checks.due("row goes along", -10, r.bound(0, 2, -1));
    Checks.due("less itself", 1, r.set(0, 1, -1, 2));
    Checks.due("greatest", -9, r.bound(0, 1, 0));
    Checks.due("least", 12, r.bound(0, -1, 0));
    Checks.due("row turns", -8, r.bound(0, 2, 1));
    Checks.due("another", 1, r.set(0, 2, -1, 1));
    Checks.due("equal", 1, r.bound(0, 2, 1));
    Checks.due("equal", -1, r.bound(0, -2, -1));
    Checks.due("greatest", 13, r.bound(0, 2, 0));
    Checks.due("all kept", 18, r.told(1));
    r.row(1, 1, 0, 5);
    r.row(1, 2, 0, 5);
    Checks.due("nothing new", 1, r.set(1, 1, 1, 0));
    Checks.due("but all bounds are kept", 10, r.kept(1, 1, 2));
    makeEmpty(r, 2);
    Checks.due("of an empty one", 0, r.set(2, 1, 0, 1));
    Checks.due("less nothing", 1, r.set(3, 2, 0, 0));
    Checks.due("from all points", 2, r.told(4));
    Checks.due("equal to an endless one", 1, r.set(4, 2, 1, 5));
    Checks.due("two rows", 2, r.told(5));
    Checks.due("row", 5, r.bound(4, 2, -1));
  }

  private static void promise11SetThrows() {
    LinearRows r = box(2, 0, 4);
    Checks.dueThrow("c above", ARGUMENT, () -> r.set(0, 1, 0, GIVEN + 1));
    Checks.dueThrow("c below", ARGUMENT, () -> r.set(0, 1, 0, -GIVEN - 1));
    Checks.dueThrow("no name 0", INDEX, () -> r.set(0, 0, 0, GIVEN + 1));
    Checks.dueThrow("no name below 0", INDEX, () -> r.set(0, -1, 0, 0));
    Checks.dueThrow("no term", INDEX, () -> r.set(0, 1, 3, GIVEN + 1));
    Checks.due("nothing changed", 4, r.told(1));
    Checks.due("c at its end", 1, r.set(0, 1, 0, -GIVEN));
    Checks.due("c at its end", -GIVEN, r.bound(0, 1, 0));
    makeEmpty(r, 1);
    Checks.dueThrow("c above for an empty one", ARGUMENT, () -> r.set(1, 1, 0, GIVEN + 1));
  }

  private static void promise12Forget() {
    LinearRows r = new LinearRows(3);
    r.row(0, 1, -2, 0);
    r.row(0, 2, -3, 0);
    r.row(0, 3, 0, 5);
    Checks.due("forget", 1, r.forget(0, 2));
    Checks.due("what followed stays", 0, r.bound(0, 1, -3));
    Checks.due("what followed is kept", 5, r.kept(0, 1, 0));
    Checks.due("anything", ENDLESS, r.bound(0, 2, 0));
    Checks.due("anything", ENDLESS, r.bound(0, 1, -2));
    Checks.due("opposite", 0, r.bound(0, 2, -2));
    Checks.due("opposite is not kept", ENDLESS, r.kept(0, 2, -2));
    Checks.due("kept", 4, r.told(1));
    r.set(0, 1, 2, 1);
    Checks.due("goes on", 1, r.bound(0, 1, -2));
    Checks.due("goes on, turned", -1, r.bound(0, 2, -1));
    makeEmpty(r, 1);
    Checks.due("empty", 0, r.forget(1, 1));
    Checks.due("empty", 1, r.told(9));
    Checks.dueThrow("no name", INDEX, () -> r.forget(0, 0));
    Checks.dueThrow("no name", INDEX, () -> r.forget(0, -1));
  }

  private static void promise13Within() {
    LinearRows r = new LinearRows(2);
    r.row(0, 1, 0, 3);
    r.row(0, 2, 0, 4);
    r.row(1, 1, 2, 7);
    Checks.due("within", true, r.within(0, 1));
    Checks.due("not within", false, r.within(1, 0));
    Checks.due("itself", true, r.within(1, 1));
    r.row(1, 1, 2, 6);
    Checks.due("not quite", false, r.within(0, 1));
    makeEmpty(r, 2);
    Checks.due("empty in all", true, r.within(2, 0));
    Checks.due("empty in empty", true, r.within(2, 2));
    Checks.due("not in an empty one", false, r.within(0, 2));
    Checks.due("in all points", true, r.within(0, 3));
    Checks.due("all points", false, r.within(3, 0));
  }

  private static void promise14Put15Point() {
    LinearRows r = new LinearRows(2);
    Checks.due("put", 0, r.put(1, 7));
    Checks.due("put again", 7, r.put(1, -GIVEN));
    Checks.due("put at the other end", -GIVEN, r.put(1, GIVEN));
    Checks.due("point", GIVEN, r.point(1));
    Checks.due("the other name", 0, r.point(2));
    Checks.dueThrow("v above", ARGUMENT, () -> r.put(2, GIVEN + 1));
    Checks.dueThrow("v below", ARGUMENT, () -> r.put(2, -GIVEN - 1));
    Checks.dueThrow("index before argument", INDEX, () -> r.put(3, GIVEN + 1));
    Checks.due("nothing changed", 0, r.point(2));
  }

  private static void promise16Has() {
    LinearRows r = new LinearRows(2);
    r.row(0, 1, -2, 3);
    r.row(0, 2, 0, 2);
    Checks.due("has 0, 0", true, r.has(0));
    r.put(1, 5);
    r.put(2, 2);
    Checks.due("has 5, 2", true, r.has(0));
    r.put(1, 6);
    Checks.due("has 6, 2", false, r.has(0));
    r.put(2, 3);
    Checks.due("has 6, 3", false, r.has(0));
    r.put(1, -GIVEN);
    r.put(2, -GIVEN);
    Checks.due("has far", true, r.has(0));
    Checks.due("all have", true, r.has(1));
    makeEmpty(r, 1);
    Checks.due("empty", false, r.has(1));
  }

  private static void promise17Sample() {
    LinearRows r = new LinearRows(4);
    r.row(0, 1, -2, 0);
    r.row(0, -1, 0, 3);
    r.row(0, 3, 2, 1);
    Checks.due("sample", true, r.sample(0));
    Checks.due("the least", -3, r.point(1));
    Checks.due("the least beside 1", -3, r.point(2));
    Checks.due("the greatest beside 2", 4, r.point(3));
    Checks.due("neither", 0, r.point(4));
    Checks.due("is in", true, r.has(0));
    makeEmpty(r, 1);
    Checks.due("empty", false, r.sample(1));
    Checks.due("nothing changed", 4, r.point(3));
    r.row(2, 1, -2, 0);
    r.row(2, 2, -1, 0);
    r.put(1, 77);
    Checks.due("free, then bound", true, r.sample(2));
    Checks.due("free", 0, r.point(1));
    Checks.due("bound to it", 0, r.point(2));
    Checks.due("old numbers do not stay", 0, r.point(3));
  }

  private static void needsAre(LinearRows r, int s, long... want) {
    Checks.due("needed", want.length / 3, r.needed(s));
    for (int i = 0; i < want.length; i++) {
      Checks.due("needs(" + i / 3 + ", " + i % 3 + ")", want[i], r.needs(i / 3, i % 3));
    }
    Checks.dueThrow("needs behind the last", INDEX, () -> r.needs(want.length / 3, 0));
  }

  private static void promise18Needed19Needs() {
    LinearRows r = new LinearRows(3);
    Checks.dueThrow("none told yet", INDEX, () -> r.needs(0, 0));
    needsAre(r, 0);
    between(r, 0, 1, 0, 5);
    between(r, 0, 2, 0, 5);
    needsAre(r, 0, 1, 0, 5, -1, 0, 0, 2, 0, 5, -2, 0, 0);
    r.row(0, -1, 2, 5);
    needsAre(r, 0, 1, 0, 5, -1, 0, 0, 2, 0, 5, -2, 0, 0);
    r.row(0, -1, 2, 4);
    needsAre(r, 0, 1, 0, 5, -1, 0, 0, 2, 0, 5, -2, 0, 0, -1, 2, 4);
    Checks.dueThrow("no part", INDEX, () -> r.needs(0, 3));
    Checks.dueThrow("no part", INDEX, () -> r.needs(0, -1));
    Checks.dueThrow("no row", INDEX, () -> r.needs(-1, 0));
    Checks.dueThrow("no shape", INDEX, () -> r.needed(8));
    Checks.due("still told", 4, r.needs(4, 2));
    r.all(0);
    Checks.due("told though the shape changed", 4, r.needs(4, 2));
    makeEmpty(r, 1);
    needsAre(r, 1, 0, 0, -1);
    for (int name = 1; name <= 3; name++) {
      r.set(2, name, 0, 2);
    }
    needsAre(r, 2, 1, 0, 2, -1, 0, -2, 2, 0, 2, -2, 0, -2, 3, 0, 2, -3, 0, -2);
    r.row(3, 1, -2, 0);
    r.row(3, 2, -1, 0);
    r.row(3, 2, -3, 0);
    r.row(3, 3, -2, 0);
    needsAre(r, 3, 1, -2, 0, 1, -3, 0, -1, 2, 0, -1, 3, 0);
    r.row(4, 1, 2, 1);
    r.row(4, 1, -2, 0);
    needsAre(r, 4, 1, 2, 1, 1, -2, 0);
  }

  private static void promise20Fits() {
    LinearRows r = new LinearRows(2);
    between(r, 0, 1, -8, 7);
    Checks.due("4 bits", true, r.fits(0, 1, 4));
    Checks.due("3 bits", false, r.fits(0, 1, 3));
    Checks.due("less the name, 4 bits", false, r.fits(0, -1, 4));
    Checks.due("less the name, 5 bits", true, r.fits(0, -1, 5));
    Checks.due("endless", false, r.fits(0, 2, 62));
    Checks.due("nothing", true, r.fits(0, 0, 1));
    between(r, 1, 1, -1, 0);
    Checks.due("1 bit", true, r.fits(1, 1, 1));
    Checks.due("1 bit", false, r.fits(1, -1, 1));
    makeEmpty(r, 2);
    Checks.due("empty", true, r.fits(2, 1, 1));
    Checks.dueThrow("bits 0", ARGUMENT, () -> r.fits(0, 1, 0));
    Checks.dueThrow("bits 63", ARGUMENT, () -> r.fits(0, 1, 63));
    Checks.dueThrow("bits of an empty one", ARGUMENT, () -> r.fits(2, 1, -5));
    Checks.dueThrow("index before bits", INDEX, () -> r.fits(0, 3, 0));
    Checks.dueThrow("shape before bits", INDEX, () -> r.fits(8, 1, 0));
  }

  private static void promise21Array() {
    LinearRows r = new LinearRows(3);
    Checks.due("nothing known", 0, r.array(0, 1, 2));
    r.row(0, -1, 0, 0);
    Checks.due("one side", 0, r.array(0, 1, 2));
    r.row(0, 1, -2, 0);
    Checks.due("at most the length", 0, r.array(0, 1, 2));
    r.row(0, 1, -2, -1);
    Checks.due("proved", 1, r.array(0, 1, 2));
    Checks.due("the other way round", -1, r.array(0, 2, 1));
    r.row(1, 1, 0, -1);
    Checks.due("below 0", -1, r.array(1, 1, 2));
    r.row(2, 2, 0, 0);
    Checks.due("no length", -1, r.array(2, 1, 2));
    Checks.due("unknown, two others", 0, r.array(2, 1, 3));
    r.row(3, 2, -1, 0);
    Checks.due("at or above the length", -1, r.array(3, 1, 2));
    makeEmpty(r, 4);
    Checks.due("empty", 1, r.array(4, 1, 2));
    r.row(5, 1, 2, 1);
    r.row(5, -1, -2, -1);
    Checks.due("0 and 1 alone", 0, r.array(5, 1, 2));
    r.row(5, 1, -2, 1);
    r.row(5, -1, 2, -1);
    Checks.due("1 and 0 alone", -1, r.array(5, 1, 2));
    Checks.dueThrow("the same", INDEX, () -> r.array(0, 1, 1));
    Checks.dueThrow("no name 0", INDEX, () -> r.array(0, 0, 1));
    Checks.dueThrow("a term", INDEX, () -> r.array(0, 1, -2));
    Checks.dueThrow("the same for an empty one", INDEX, () -> r.array(4, 2, 2));
    Checks.due("nothing changed", 2, r.told(1));
  }

  private static void promise22Told() {
    LinearRows r = new LinearRows(4);
    Checks.due("names", 4, r.told(0));
    for (int s = 0; s < 8; s++) {
      for (int k = 0; k <= s; k++) {
        r.row(s, k % 4 + 1, k < 4 ? 0 : -((k + 1) % 4 + 1), k);
      }
    }
    for (int s = 0; s < 8; s++) {
      Checks.due("kept rows of " + s, s + 1, r.told(1 + s));
    }
    Checks.due("empty", 0, r.told(9));
    makeEmpty(r, 0);
    makeEmpty(r, 7);
    Checks.due("empty", 2, r.told(9));
    Checks.due("kept rows of an empty one", 0, r.told(8));
    Checks.dueThrow("told(10)", INDEX, () -> r.told(10));
    Checks.dueThrow("told(-1)", INDEX, () -> r.told(-1));
    Checks.dueThrow("told(MIN)", INDEX, () -> r.told(Integer.MIN_VALUE));
    Checks.dueThrow("told(MAX)", INDEX, () -> r.told(Integer.MAX_VALUE));
  }

  private static void noSuchShape() {
    LinearRows r = new LinearRows(2);
    for (int s : NO_SHAPES) {
      Checks.dueThrow("all", INDEX, () -> r.all(s));
      Checks.dueThrow("row", INDEX, () -> r.row(s, 1, 0, 0));
      Checks.dueThrow("bound", INDEX, () -> r.bound(s, 1, 0));
      Checks.dueThrow("kept", INDEX, () -> r.kept(s, 1, 0));
      Checks.dueThrow("copy", INDEX, () -> r.copy(s, 0));
      Checks.dueThrow("copy", INDEX, () -> r.copy(0, s));
      Checks.dueThrow("set", INDEX, () -> r.set(s, 1, 0, 0));
      Checks.dueThrow("forget", INDEX, () -> r.forget(s, 1));
      Checks.dueThrow("within", INDEX, () -> r.within(s, 0));
      Checks.dueThrow("within", INDEX, () -> r.within(0, s));
      Checks.dueThrow("has", INDEX, () -> r.has(s));
      Checks.dueThrow("sample", INDEX, () -> r.sample(s));
      Checks.dueThrow("needed", INDEX, () -> r.needed(s));
      Checks.dueThrow("fits", INDEX, () -> r.fits(s, 1, 8));
      Checks.dueThrow("array", INDEX, () -> r.array(s, 1, 2));
    }
    for (int s : NO_SHAPES) {
      for (int k = 0; k < 3; k++) {
        int t = k == 0 ? s : 0;
        int u = k == 1 ? s : 0;
        int v = k == 2 ? s : 0;
        Checks.dueThrow("meet", INDEX, () -> r.meet(t, u, v));
        Checks.dueThrow("join", INDEX, () -> r.join(t, u, v));
        Checks.dueThrow("widen", INDEX, () -> r.widen(t, u, v));
        Checks.dueThrow("narrow", INDEX, () -> r.narrow(t, u, v));
      }
    }
  }

  private static void noSuchName() {
    LinearRows r = new LinearRows(2);
    for (int name : new int[] {0, -1, 3, Integer.MIN_VALUE, Integer.MAX_VALUE}) {
      Checks.dueThrow("set", INDEX, () -> r.set(0, name, 1, 0));
      Checks.dueThrow("forget", INDEX, () -> r.forget(0, name));
      Checks.dueThrow("put", INDEX, () -> r.put(name, 0));
      Checks.dueThrow("point", INDEX, () -> r.point(name));
      Checks.dueThrow("array", INDEX, () -> r.array(0, name, 1));
      Checks.dueThrow("array", INDEX, () -> r.array(0, 1, name));
    }
  }

  private static void noSuchTerm() {
    LinearRows r = new LinearRows(2);
    for (int term : new int[] {3, -3, Integer.MIN_VALUE, Integer.MAX_VALUE}) {
      Checks.dueThrow("row", INDEX, () -> r.row(0, term, 1, 0));
      Checks.dueThrow("row", INDEX, () -> r.row(0, 1, term, 0));
      Checks.dueThrow("bound", INDEX, () -> r.bound(0, term, 1));
      Checks.dueThrow("bound", INDEX, () -> r.bound(0, 1, term));
      Checks.dueThrow("kept", INDEX, () -> r.kept(0, term, term));
      Checks.dueThrow("kept", INDEX, () -> r.kept(0, 0, term));
      Checks.dueThrow("set", INDEX, () -> r.set(0, 1, term, 0));
      Checks.dueThrow("fits", INDEX, () -> r.fits(0, term, 8));
    }
    makeEmpty(r, 0);
    Checks.dueThrow("bound of an empty one", INDEX, () -> r.bound(0, 3, 0));
    Checks.dueThrow("kept of an empty one", INDEX, () -> r.kept(0, 0, -3));
  }

  /** Shape 0 with name 1 less name 2 = times * 10^9 and no other row: doubling and adding, by the digits of times. */
  private static LinearRows apart(int times) {
    LinearRows r = new LinearRows(3);
    r.set(0, 1, 2, 0);
    growApart(r, times);
    return r;
  }

  /** The same, but name 1 less name 2 may be more, too. */
  private static LinearRows atLeastApart(int n, int times) {
    LinearRows r = new LinearRows(n);
    r.row(0, 2, -1, 0);
    growApart(r, times);
    return r;
  }

  private static void growApart(LinearRows r, int times) {
    for (int digit = 31 - Integer.numberOfLeadingZeros(times); digit >= 0; digit--) {
      moveToNextNames(r, 1, 0);
      r.meet(0, 0, 1);
      r.set(0, 2, 3, 0);
      r.forget(0, 3);
      if ((times >> digit & 1) == 1) {
        r.set(0, 1, 1, GIVEN);
      }
    }
    r.all(1);
  }

  /** Shape t says of names 2 and 3 what shape s says of names 1 and 2. */
  private static void moveToNextNames(LinearRows r, int t, int s) {
    r.copy(t, s);
    r.set(t, 3, 2, 0);
    r.set(t, 2, 1, 0);
    r.forget(t, 1);
  }

  private static void limitOfBounds() {
    LinearRows r = apart(1000000);
    Checks.due("10^15", LIMIT, r.bound(0, 1, -2));
    Checks.due("-10^15", -LIMIT, r.bound(0, 2, -1));
    Checks.dueThrow("10^15 + 1", ARITHMETIC, () -> r.set(0, 1, 1, 1));
    Checks.dueThrow("-10^15 - 1", ARITHMETIC, () -> r.set(0, 2, 2, -1));
    Checks.dueThrow("10^15 + 1 by turning", ARITHMETIC, () -> r.set(0, 1, -1, -1));
    Checks.due("turned", LIMIT, r.bound(0, 1, -2));
    Checks.dueThrow("10^15 + 1 in another name", ARITHMETIC, () -> r.set(0, 3, 1, 1));
    Checks.due("nothing changed", ENDLESS, r.bound(0, 3, -1));
    Checks.dueThrow("above by a row", ARITHMETIC, () -> r.row(0, 2, 0, 1));
    Checks.due("nothing changed", 2, r.told(1));
    Checks.due("nothing changed", ENDLESS, r.bound(0, 2, 0));
    Checks.due("no limit for an empty one", 0, r.row(0, 1, -2, 0));
    LinearRows q = apart(1000000);
    q.row(0, -2, 0, 0);
    Checks.due("twice a name may pass 10^15", 1, q.row(0, 2, 0, 0));
    Checks.due("twice a name", 2 * LIMIT, q.bound(0, 1, 1));
    Checks.due("one name", LIMIT, q.bound(0, 1, 0));
    Checks.due("fits in 51 bits", true, q.fits(0, 1, 51));
    Checks.due("not in 50 bits", false, q.fits(0, 1, 50));
    Checks.due("sample", true, q.sample(0));
    Checks.due("far point", LIMIT, q.point(1));
    Checks.due("has the far point", true, q.has(0));
    q.row(1, 1, 0, 1);
    Checks.due("meet that is empty", 0, q.meet(2, 0, 1));
    q.row(3, 3, 0, 1);
    Checks.dueThrow("meet beyond", ARITHMETIC, () -> q.meet(3, 0, 3));
    Checks.due("nothing changed", 1, q.told(4));
    Checks.due("joined", 1, q.join(4, 0, 1));
    Checks.due("needed", 4, q.needed(0));
  }

  private static void limitBelow() {
    LinearRows r = atLeastApart(3, 1000000);
    Checks.due("-10^15", -LIMIT, r.bound(0, 2, -1));
    Checks.due("endless", ENDLESS, r.bound(0, 1, -2));
    Checks.dueThrow("-10^15 - 1", ARITHMETIC, () -> r.set(0, 2, 2, -1));
    Checks.dueThrow("-10^15 - 1", ARITHMETIC, () -> r.row(0, 1, 0, -1));
    Checks.due("nothing changed", 1, r.told(1));
    Checks.due("-10^15 of a name", 1, r.row(0, 1, 0, 0));
    Checks.due("-10^15 of a name", -LIMIT, r.bound(0, 2, 0));
    Checks.due("-2 * 10^15 of a name twice", -2 * LIMIT, r.bound(0, 2, 2));
  }

  /** Contradictions between far numbers in all names: numbers that are added up again and again would wrap. */
  private static void farContradictions() {
    for (int times = 250000; times <= 500000; times += 50000) {
      LinearRows r = atLeastApart(5, times);
      r.row(0, -2, 0, 0);
      r.row(0, 2, 0, 0);
      for (int name = 2; name <= 5; name++) {
        r.set(0, name, 1, 0);
      }
      Checks.due("all far above 0", -2L * times * GIVEN, r.bound(0, -1, -5));
      r.copy(1, 0);
      for (int name = 1; name <= 5; name++) {
        r.set(1, name, -name, 0);
      }
      Checks.due("all far below 0", -2L * times * GIVEN, r.bound(1, 2, 4));
      Checks.due("never both", 0, r.meet(2, 0, 1));
      Checks.due("narrowed", 1, r.narrow(3, 0, 0));
      r.set(1, 3, -3, 0);
      Checks.due("one is right, the others are not", 0, r.meet(4, 1, 0));
      Checks.due("no index", -1, r.array(1, 1, 3));
      Checks.due("no length", -1, r.array(1, 3, 2));
      Checks.due("empty", 2, r.told(9));
    }
  }

  private static void limitInWidenAndNarrow() {
    LinearRows r = apart(600000);
    r.row(1, 1, -2, 0);
    r.join(0, 0, 1);
    moveToNextNames(r, 1, 0);
    Checks.due("name 1 less name 2 alone", 1, r.told(1));
    Checks.due("name 2 less name 3 alone", 600000 * GIVEN, r.kept(1, 2, -3));
    Checks.dueThrow("meet beyond", ARITHMETIC, () -> r.meet(2, 0, 1));
    Checks.dueThrow("narrow beyond", ARITHMETIC, () -> r.narrow(2, 0, 1));
    Checks.due("nothing changed", 0, r.told(3));
    r.row(0, 1, -3, 0);
    Checks.due("narrow", 1, r.narrow(2, 0, 1));
    Checks.due("three kept rows", 3, r.told(3));
    r.set(3, 1, 3, 1);
    r.set(3, 2, 1, 0);
    Checks.dueThrow("widen beyond", ARITHMETIC, () -> r.widen(2, 2, 3));
    Checks.due("nothing changed", 3, r.told(3));
    Checks.due("nothing changed", 0, r.bound(2, 1, -3));
    r.forget(1, 2);
    Checks.due("widen that leaves less", 1, r.widen(2, 2, 1));
    Checks.due("nothing is left", 0, r.told(3));
  }
}
