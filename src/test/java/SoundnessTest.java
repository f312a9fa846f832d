import java.lang.reflect.Field;

/**
 * isSound() holds behind all that the face can do, so that only a look inside shows what it answers where it does not:
 * here what an object holds is broken on purpose.
 */
public final class SoundnessTest extends Checks {
  private static Field field(Object whole, String name) throws ReflectiveOperationException {
    Field field = whole.getClass().getDeclaredField(name);
    field.setAccessible(true);
    return field;
  }

  private static Object part(Object whole, String name) throws ReflectiveOperationException {
    return field(whole, name).get(whole);
  }

  /** The room of a thing, looked for among all rooms. */
  private static Object room(PolyglotPier x, int thing) throws ReflectiveOperationException {
    for (Object room : (Object[]) part(part(x, "heap"), "rooms")) {
      if (field(room, "number").getInt(room) == thing) {
        return room;
      }
    }
    throw new IllegalStateException("there is no thing " + thing);
  }

  private static void dueNumbered(String what, PolyglotPier x, Object room, int number, boolean sound)
      throws ReflectiveOperationException {
    int before = field(room, "number").getInt(room);
    field(room, "number").setInt(room, number);
    due(what, x.isSound(), sound);
    field(room, "number").setInt(room, before);
    due(what + ", mended", x.isSound(), true);
  }

  // "each thing to which a global .. refers is there".
  private static void globalsRefer() throws ReflectiveOperationException {
    for (int i = 0; i < 24; i++) {
      for (int of = ASH; of <= CEDAR; of++) {
        PolyglotPier x = new PolyglotPier();
        x.make(of, 5);
        x.pass(of, 5, i / 8, i % 8);
        if (of * 8 + 5 != i) {
          x.set(of, 5, 0);
        }
        dueNumbered("a global refers to what is freed", x, room(x, 0), -1, false);
        dueNumbered("a global refers to what is another one by now", x, room(x, 0), 7, false);
      }
    }
  }

  // ".. or a field of a thing that is there".
  private static void fieldsRefer() throws ReflectiveOperationException {
    for (int holder = ASH; holder <= CEDAR; holder++) {
      for (int of = ASH; of <= CEDAR; of++) {
        for (int field = 0; field < 3; field++) {
          PolyglotPier x = new PolyglotPier();
          x.make(holder, 0);
          x.make(of, 1);
          x.pass(of, 1, holder, 2);
          x.put(holder, 0, field, 2);
          x.set(of, 1, 0);
          x.set(holder, 2, 0);
          due("it is there", x.isThere(1), true);
          dueNumbered("a field refers to what is freed", x, room(x, 1), -1, false);
          dueNumbered("a field refers to what is another one by now", x, room(x, 1), 7, false);
        }
      }
    }
    PolyglotPier y = new PolyglotPier();
    y.make(BIRCH, 0);
    y.make(CEDAR, 0);
    y.pass(CEDAR, 0, BIRCH, 1);
    y.put(BIRCH, 0, 0, 1);
    y.set(BIRCH, 0, 0);
    y.set(BIRCH, 1, 0);
    y.set(CEDAR, 0, 0);
    field(room(y, 0), "number").setInt(room(y, 0), -1);
    dueNumbered("a field of a thing that is not there", y, room(y, 1), -1, true);
  }

  // ".. and each thing of Ash that is there has a count".
  private static void countsOfAsh() throws ReflectiveOperationException {
    for (int language = ASH; language <= CEDAR; language++) {
      PolyglotPier x = new PolyglotPier();
      x.make(language, 0);
      x.make(language, 0);
      x.make(language, 0);
      Object global = ((Object[]) part(part(x, "heap"), "globals"))[language * 8];
      field(global, "kind").setChar(global, nothing(language));
      field(global, "target").set(global, null);
      due("none refers to it", x.isSound(), language != ASH);
      Object room = room(x, 2);
      field(room, "hasProxy").setBoolean(room, true);
      due("a proxy is a count", x.isSound(), true);
    }
  }

  public static void main(String[] args) throws ReflectiveOperationException {
    globalsRefer();
    fieldsRefer();
    countsOfAsh();
    end();
  }
}
