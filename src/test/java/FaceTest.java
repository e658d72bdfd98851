import java.lang.management.ManagementFactory;
import java.lang.reflect.Field;
import java.lang.reflect.Method;
import java.lang.reflect.Modifier;
import java.util.ArrayList;
import java.util.Arrays;
import java.util.List;
import java.util.Set;
import java.util.TreeSet;

/** The face as the document has it, the limits of LANGUAGE.md that can be looked up, and the room that calls take. */
public final class FaceTest {
  private static final Set<String> FACE = new TreeSet<>(Arrays.asList(
      "feed(int,int,int,int,int)int", "text(int)int", "fault(int)int", "named(int,int)int", "look(int,int)int",
      "dark(int,int)int", "walk(int,int,int,int,int)int", "stays(int,int,int,int,int)int", "cat(int,int)int",
      "send(int,int)int", "drop(int)int", "glass(int,boolean)boolean", "out(int,boolean)boolean", "done(int,int)int",
      "where(int,int)int", "gain()int", "night()int", "was(int,int)int", "chance(int,int)int", "best(int)int",
      "chosen(int,int,int)int", "many()int", "price(int)int", "all(int)int", "after(int,int)int", "which(int)int",
      "exchange(int)int", "climb()int", "refusal(int)int", "track(int,int,int)int", "strike(int)int",
      "known(int)boolean", "tales(int)int", "tale(int,int,int)int", "tried(int,int)int", "undo()int", "keep()int",
      "back()int", "count(int)int"));

  static String told(Method m) {
    List<String> types = new ArrayList<>();
    for (Class<?> c : m.getParameterTypes()) types.add(c.getName());
    return m.getName() + "(" + String.join(",", types) + ")" + m.getReturnType().getName();
  }

  static void face() {
    Set<String> found = new TreeSet<>();
    Set<String> names = new TreeSet<>();
    for (Method m : FirstSill.class.getDeclaredMethods()) {
      if (Modifier.isPublic(m.getModifiers())) {
        found.add(told(m));
        names.add(m.getName());
      }
    }
    if (!found.equals(FACE)) System.out.println("the face is " + found);
    Check.due("the face", found.equals(FACE), true);
    Check.due("final", Modifier.isFinal(FirstSill.class.getModifiers()), true);
    Check.due("constructors", FirstSill.class.getConstructors().length, 1);
    for (Method m : FirstSill.class.getDeclaredMethods()) {
      boolean ours = Modifier.isPublic(m.getModifiers()) || Modifier.isPrivate(m.getModifiers());
      Check.due(m.getName() + " is public or private", ours, true);
    }
    for (Field f : FirstSill.class.getDeclaredFields()) {
      boolean none = f.getName().equals("NONE");
      Check.due(f.getName() + " is private but NONE", Modifier.isPrivate(f.getModifiers()), !none);
      Check.due(f.getName() + " if static, final", !Modifier.isStatic(f.getModifiers()) || Modifier.isFinal(f.getModifiers()), true);
    }
    Class<?>[] inside = FirstSill.class.getDeclaredClasses();
    Check.due("some twelve classes", inside.length + 1 <= 12, true);
    for (Class<?> c : inside) {
      boolean seenOutside = Modifier.isPublic(c.getModifiers()) || Modifier.isProtected(c.getModifiers());
      Check.due(c.getName() + " is private or package-visible", seenOutside, false);
      for (Method m : c.getDeclaredMethods()) {
        Check.due(c.getName() + "." + m.getName() + " bears no name of the face", names.contains(m.getName()), false);
        Check.due(c.getName() + "." + m.getName() + " has seven parameters at most", m.getParameterCount() <= 7, true);
      }
    }
  }

  static long room() {
    com.sun.management.ThreadMXBean bean = (com.sun.management.ThreadMXBean) ManagementFactory.getThreadMXBean();
    return bean.getThreadAllocatedBytes(Thread.currentThread().getId());
  }

  /** The room of one run, with eight bytes for each of its 7.3 million fields and elements. */
  private static final long ROOM = 8L * 7300000;

  /** Calls that could cost most, as many as an object is used for: they have to fit into the room of one run. */
  static void roomOfCalls() {
    String text = "house a 1 2 own;house b 5 6;house c 9 9;house d 11 9;house e 40 9;house f 50 3;"
        + "dark k 3 9;dark l 30 9;dark m 70 9;law cat minute*3;law may worth>1;law stay glass;law walk far+up;";
    FirstSill x = Check.street(text);
    Check.send(x, 0, 5, 4, 3, 2, 1, 0, 1, 2, 3);
    Check.send(x, 1, 0, 1, 2, 3, 4, 5, 4, 3, 2);
    Check.send(x, 2, 5, 4, 3, 2, 1, 0, 1, 2, 3);
    int sum = 0;
    long before = room();
    for (int i = 0; i < 15; i++) {
      x.glass(i % 6, i % 4 < 2);
      x.out(0, i % 2 == 0);
      sum += x.best(3) + x.chosen(3, 1, 0) + x.many() + x.price(1) + x.all(63) + x.refusal(0) + x.exchange(0);
      sum += x.climb() + x.night() + x.chance(i, 3) + x.tales(0) + x.tale(1, 900, 2) + x.tried(3, 0) + x.undo();
      sum += x.keep() + x.back() + x.count(3) + x.which(2) + x.after(0, 1) + x.where(0, 9) + x.done(0, 0);
      x.feed(i, i, i, i, i);
      sum += x.text(20);
    }
    long made = room() - before;
    before = room();
    FirstSill y = new FirstSill();
    made += room() - before;
    Check.due("room of an object and its calls, sum " + (sum + y.count(0) > 0), made < ROOM, true);
  }

  public static void main(String[] args) {
    face();
    roomOfCalls();
    Check.end();
  }
}
