import java.lang.reflect.Constructor;
import java.lang.reflect.Field;
import java.lang.reflect.Method;
import java.lang.reflect.Modifier;
import java.util.Arrays;
import java.util.HashSet;
import java.util.Set;
import java.util.TreeSet;

/** The public face: every constant, the constructor and every method, as written, and no more. */
public final class FaceTest {
  private static int wrong = 0;

  private static final String[] FACE = {
    "public static final int OddsSampling.BAD",
    "public static final int OddsSampling.NO",
    "public static final int OddsSampling.FULL",
    "public OddsSampling()",
    "public int OddsSampling.fact(int,int)",
    "public int OddsSampling.odds(int,int,int)",
    "public int OddsSampling.set(int,int)",
    "public int OddsSampling.join(int,int,int)",
    "public int OddsSampling.some(int,int,int)",
    "public int OddsSampling.holds(int,int)",
    "public long OddsSampling.chance(int,int)",
    "public double OddsSampling.real(int)",
    "public long OddsSampling.given(int,int) throws java.lang.ArithmeticException",
    "public long OddsSampling.influence(int,int,int)",
    "public int OddsSampling.hangs(int)",
    "public int OddsSampling.likeliest(int)",
    "public long OddsSampling.weight(int)",
    "public int OddsSampling.worlds(int)",
    "public int OddsSampling.same(int,int)",
    "public int OddsSampling.sample(int,long,int)",
    "public long OddsSampling.seed()",
    "public int OddsSampling.questions()"
  };

  private static void due(String what, Object got, Object want) {
    if (!got.equals(want)) {
      wrong++;
      System.out.println(what + " is " + got + ", due is " + want);
    }
  }

  private static Set<String> visibleMembers() {
    Set<String> visible = new TreeSet<>();
    for (Field field : OddsSampling.class.getDeclaredFields()) {
      if (!Modifier.isPrivate(field.getModifiers())) {
        visible.add(field.toGenericString());
      }
    }
    for (Constructor<?> constructor : OddsSampling.class.getDeclaredConstructors()) {
      if (!Modifier.isPrivate(constructor.getModifiers())) {
        visible.add(constructor.toGenericString());
      }
    }
    for (Method method : OddsSampling.class.getDeclaredMethods()) {
      if (!Modifier.isPrivate(method.getModifiers())) {
        visible.add(method.toGenericString());
      }
    }
    return visible;
  }

  private static void noPrivateMethodBearsAPublicName() {
    Set<String> names = new HashSet<>();
    for (Method method : OddsSampling.class.getMethods()) {
      names.add(method.getName());
    }
    for (Method method : OddsSampling.class.getDeclaredMethods()) {
      if (Modifier.isPrivate(method.getModifiers())) {
        due("private " + method.getName(), names.contains(method.getName()), false);
      }
    }
  }

  public static void main(String[] args) {
    due("the face", visibleMembers(), new TreeSet<>(Arrays.asList(FACE)));
    due("the class", Modifier.toString(OddsSampling.class.getModifiers()), "public final");
    due("BAD", OddsSampling.BAD, -1);
    due("NO", OddsSampling.NO, -2);
    due("FULL", OddsSampling.FULL, -3);
    noPrivateMethodBearsAPublicName();
    System.out.println(wrong == 0 ? "all answers are as due" : wrong + " answers are not as due");
    if (wrong != 0) {
      System.exit(1);
    }
  }
}
