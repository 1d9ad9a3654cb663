import java.lang.reflect.Constructor;
import java.lang.reflect.Field;
import java.lang.reflect.Member;
import java.lang.reflect.Method;
import java.lang.reflect.Modifier;
import java.util.Set;
import java.util.TreeSet;

/** The public face is the document's, and nothing else of the class can be seen from outside. */
public final class FaceTest {
  private static final String[] METHODS = {
    "appendCharacter 1", "clearText 0", "addEntry 3", "removeEntry 1", "entryCount 0", "wordOf 1", "costOf 1",
    "useCount 1", "entriesWithPrefix 0", "setConnection 3", "setUnknownCost 1", "setInput 0", "inputLength 0",
    "setConstraint 2", "segmentsAt 1", "pathCount 0", "pathCost 1", "segmentCount 1", "segmentStart 2",
    "segmentEntry 2", "bestThrough 2", "boundaryInBest 1", "bestCount 0", "choose 1", "forget 0", "undo 0"
  };
  private static int wrong = 0;

  private static void expect(boolean right, String what) {
    if (!right) {
      wrong++;
      System.out.println(what);
    }
  }

  private static boolean isPrivate(Member member) {
    return Modifier.isPrivate(member.getModifiers());
  }

  private static void checkMethods() {
    Set<String> wanted = new TreeSet<>(Set.of(METHODS));
    Set<String> names = new TreeSet<>();
    for (String method : METHODS) {
      names.add(method.substring(0, method.indexOf(' ')));
    }
    for (Method method : ReadingConverter.class.getDeclaredMethods()) {
      if (isPrivate(method)) {
        expect(!names.contains(method.getName()), "a private method bears a public name: " + method);
      } else {
        expect(wanted.remove(method.getName() + " " + method.getParameterCount()), "not in the face: " + method);
        expect(Modifier.toString(method.getModifiers()).equals("public"), "not just public: " + method);
        expect(method.getReturnType() == int.class, "does not return int: " + method);
        for (Class<?> type : method.getParameterTypes()) {
          expect(type == int.class, "does not take int: " + method);
        }
      }
    }
    expect(wanted.isEmpty(), "missing: " + wanted);
  }

  private static void checkConstant(String name, int value) throws ReflectiveOperationException {
    Field field = ReadingConverter.class.getDeclaredField(name);
    expect(Modifier.toString(field.getModifiers()).equals("public static final"), "not a public constant: " + field);
    expect(field.getType() == int.class && field.getInt(null) == value, "wrong value: " + field);
  }

  public static void main(String[] args) throws ReflectiveOperationException {
    expect(Modifier.toString(ReadingConverter.class.getModifiers()).equals("public final"), "class not public final");
    checkMethods();
    checkConstant("INVALID_ARGUMENT", -1);
    checkConstant("INVALID_STATE", -2);
    checkConstant("LIMIT_REACHED", -3);
    checkConstant("NONE", -9);
    int visible = 0;
    for (Field field : ReadingConverter.class.getDeclaredFields()) {
      if (!isPrivate(field)) {
        visible++;
      }
      expect(!Modifier.isStatic(field.getModifiers()) || Modifier.isFinal(field.getModifiers()), "static state: " + field);
    }
    expect(visible == 4, visible + " visible fields, due are 4");
    Constructor<?>[] constructors = ReadingConverter.class.getDeclaredConstructors();
    expect(constructors.length == 1 && constructors[0].getParameterCount() == 0
        && Modifier.isPublic(constructors[0].getModifiers()), "not just the public constructor");
    System.out.println(wrong == 0 ? "the face is as due" : wrong + " things of the face are not as due");
    if (wrong != 0) {
      System.exit(1);
    }
  }
}
