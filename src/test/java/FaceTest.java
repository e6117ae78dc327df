import java.lang.reflect.Constructor;
import java.lang.reflect.Field;
import java.lang.reflect.Member;
import java.lang.reflect.Method;
import java.lang.reflect.Modifier;
import java.nio.file.Files;
import java.nio.file.Path;
import java.util.HashSet;
import java.util.Set;
import java.util.TreeSet;
import java.util.regex.Pattern;

/** The public face as the document has it, and the rules of LANGUAGE.md that can be seen from the outside. */
public final class FaceTest {
  private static final String FACE = "int feed(long) int end(int) int text() int fault() int net(int,int) int drop()"
      + " int told(int,int) int cell(int,int,int,int) int pace(int,int) int start(int,int) int time(int,int)"
      + " long sum(int,int,int,boolean,int) int best(int,int,int,int) int made(int,int,int) int blocks(long,int,int)"
      + " long sizes(int,int,int,int) int run(int,int,int) long runs(int,int) long mean(int,int) int height(int,int)"
      + " int product(int,int) int down(int) int downs(int,int) int heap(int) int digit(int,int)"
      + " long times(int,int,int,int) int sheet(int,int,int) int lay(int,int,int) int heights(int,int,int,int)"
      + " int count(int)";
  private static final Due DUE = new Due();

  public static void main(String[] args) throws Exception {
    face();
    constants();
    nestedClasses();
    source(Files.readString(Path.of("src/main/java/CarryNets.java")));
    DUE.close();
  }

  private static void yes(String what, boolean holds) {
    DUE.is(what, holds ? 1 : 0, 1);
  }

  private static void face() {
    Class<?> face = CarryNets.class;
    yes("public final", Modifier.isPublic(face.getModifiers()) && Modifier.isFinal(face.getModifiers()));
    Set<String> methods = new TreeSet<>();
    Set<String> publicNames = new HashSet<>();
    for (Method method : face.getDeclaredMethods()) {
      if (Modifier.isPublic(method.getModifiers())) {
        methods.add(method.toGenericString().replace("public ", "").replace("CarryNets.", ""));
        publicNames.add(method.getName());
      }
    }
    yes("the methods are those of the document", methods.equals(new TreeSet<>(Set.of(FACE.split("(?<=\\)) ")))));
    for (Method method : face.getDeclaredMethods()) {
      if (!Modifier.isPublic(method.getModifiers()) && !method.isSynthetic()) {
        yes(method + " is private", Modifier.isPrivate(method.getModifiers()));
        yes(method + " has a name of its own", !publicNames.contains(method.getName()));
      }
    }
    Constructor<?>[] constructors = face.getDeclaredConstructors();
    yes("one public constructor without arguments", constructors.length == 1
        && Modifier.isPublic(constructors[0].getModifiers()) && constructors[0].getParameterCount() == 0);
  }

  private static void constants() throws Exception {
    DUE.is("BAD", CarryNets.BAD, -1);
    DUE.is("STATE", CarryNets.STATE, -2);
    DUE.is("FULL", CarryNets.FULL, -3);
    DUE.is("NONE", CarryNets.NONE, -4);
    Set<String> names = new TreeSet<>();
    for (Field field : CarryNets.class.getDeclaredFields()) {
      if (!Modifier.isPrivate(field.getModifiers())) {
        names.add(field.getName());
      }
    }
    yes("no constants but these", names.equals(Set.of("BAD", "STATE", "FULL", "NONE")));
  }

  private static void nestedClasses() {
    Class<?>[] nested = CarryNets.class.getDeclaredClasses();
    yes("some twelve classes at most", nested.length < 12);
    for (Class<?> inside : nested) {
      yes(inside + " is static", Modifier.isStatic(inside.getModifiers()));
      statics(inside);
    }
    statics(CarryNets.class);
  }

  private static void statics(Class<?> any) {
    int own = 0;
    for (Field field : any.getDeclaredFields()) {
      boolean isStatic = Modifier.isStatic(field.getModifiers());
      yes(field + " is final if static", !isStatic || Modifier.isFinal(field.getModifiers()));
      own += isStatic ? 0 : 1;
    }
    yes(any + " has some twenty fields at most", own <= 20);
    for (Method method : any.getDeclaredMethods()) {
      yes(method + " takes seven at most", method.getParameterCount() <= 7);
    }
    for (Member member : any.getDeclaredFields()) {
      yes(member + " is not protected", !Modifier.isProtected(member.getModifiers()));
    }
  }

  private static void source(String source) {
    String code = source.replaceAll("(?s)/\\*.*?\\*/", "").replaceAll("//[^\\n]*", "");
    String[] words = {"throw", "throws", "try", "catch", "finally", "synchronized", "assert", "import", "package",
        "protected", "volatile", "native", "double", "float", "random", "nanoTime", "currentTimeMillis", "Exact"};
    for (String word : words) {
      yes("no " + word, !Pattern.compile("\\b" + word + "\\b").matcher(code).find());
    }
    yes("no lambda", !code.contains("->"));
    yes("no method reference", !code.contains("::"));
    yes("no static block", !Pattern.compile("static\\s*\\{").matcher(code).find());
    for (char sign : source.toCharArray()) {
      yes("plain signs", sign < 128);
    }
  }
}
