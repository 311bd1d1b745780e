import java.lang.reflect.Constructor;
import java.lang.reflect.Field;
import java.lang.reflect.Method;
import java.lang.reflect.Modifier;
import java.util.Set;
import java.util.TreeSet;

/** The face is the document's, and nothing else can be seen. */
public final class FaceTest {
  private static final String[] FACE = {
    "int person(int,int)", "int thing(int,int)", "int card(int,int,int)", "int cards(int,int,int)", "int feed(int)",
    "int law()", "int set(int,int)", "int mend(int,int,int)", "int of(int,int)", "int meet(int)", "int told(int)",
    "int saying(int,int)", "int took(int,int)", "int did(int,int)", "int first(int,int)", "int rule(int)",
    "int order(int)", "int times(int)", "int film(int)", "int wish(int,int)", "int undo()", "int redo()",
    "int body(int)", "int act(int,int,int)", "int trace(int)", "int keep(int,int)", "int row(int,int,int)",
    "int put(int,int,long)", "long element(int,int)", "int shift(int,int,int,int,int)", "int taken(int,int)",
    "int count(int)"
  };

  public static void main(String[] args) throws Exception {
    Class<?> face = SpeaksInTurn.class;
    Due.holds("public and final", Modifier.isPublic(face.getModifiers()) && Modifier.isFinal(face.getModifiers()));
    Set<String> want = new TreeSet<>(Set.of(FACE));
    Set<String> got = new TreeSet<>();
    Set<String> names = new TreeSet<>();
    for (Method m : face.getDeclaredMethods()) {
      if (Modifier.isPrivate(m.getModifiers())) {
        continue;
      }
      names.add(m.getName());
      StringBuilder text = new StringBuilder(m.getReturnType().getName() + " " + m.getName() + "(");
      for (int i = 0; i < m.getParameterCount(); i++) {
        text.append(i == 0 ? "" : ",").append(m.getParameterTypes()[i].getName());
      }
      got.add(text.append(")").toString());
      Due.holds(m + " is public and no static", Modifier.isPublic(m.getModifiers()) && !Modifier.isStatic(m.getModifiers()));
    }
    Due.holds("methods: " + got, got.equals(want));
    Constructor<?>[] made = face.getDeclaredConstructors();
    Due.holds("one constructor", made.length == 1 && made[0].getParameterCount() == 0);
    Set<String> constants = new TreeSet<>();
    for (Field f : face.getDeclaredFields()) {
      if (!Modifier.isPrivate(f.getModifiers())) {
        constants.add(f.getName());
      }
    }
    Due.holds("constants: " + constants, constants.equals(Set.of("BAD", "NOT", "FULL", "STATE", "VOID")));
    inside(face, names);
    Due.is("BAD", SpeaksInTurn.BAD, -1);
    Due.is("NOT", SpeaksInTurn.NOT, -2);
    Due.is("FULL", SpeaksInTurn.FULL, -3);
    Due.is("STATE", SpeaksInTurn.STATE, -5);
    Due.is("VOID", SpeaksInTurn.VOID, -2000000000);
    Due.end();
  }

  private static void inside(Class<?> face, Set<String> names) {
    Due.holds("some twelve classes", face.getDeclaredClasses().length <= 12);
    for (Class<?> c : face.getDeclaredClasses()) {
      Due.holds(c + " is static", Modifier.isStatic(c.getModifiers()) && !Modifier.isPublic(c.getModifiers()));
      int fields = 0;
      for (Field f : c.getDeclaredFields()) {
        fields += Modifier.isStatic(f.getModifiers()) ? 0 : 1;
        Due.holds(f + " is final if static", !Modifier.isStatic(f.getModifiers()) || Modifier.isFinal(f.getModifiers()));
      }
      Due.holds(c + " has some twenty fields: " + fields, fields <= 20);
      for (Method m : c.getDeclaredMethods()) {
        Due.holds(m + " bears no public name", !names.contains(m.getName()));
        Due.holds(m + " takes at most seven", m.getParameterCount() <= 7);
      }
    }
  }
}
