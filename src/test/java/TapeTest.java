/** Promises 1 to 3: a new object, the tape. */
public final class TapeTest {
  public static void main(String[] args) {
    newObject();
    Trial.close();
  }

  private static void newObject() {
    Trial t = new Trial("1 a new object");
    t.due("has(0)", t.of.has(0), 0);
    t.due("place(0)", t.of.place(0), -1);
    t.due("image()", t.of.image(), -1);
  }
}
