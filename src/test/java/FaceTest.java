import java.io.IOException;
import java.lang.reflect.Constructor;
import java.lang.reflect.Field;
import java.lang.reflect.Method;
import java.lang.reflect.Modifier;
import java.nio.file.Files;
import java.nio.file.Path;
import java.util.Arrays;
import java.util.TreeSet;
import java.util.regex.Matcher;
import java.util.regex.Pattern;

/** The public face as the document prints it, and what can be seen of LANGUAGE.md in the class and its text. */
public final class FaceTest {
  private static final String[] FACE = {"int set(int,int)", "int day(int,int,boolean)", "int meal(int,int,int,int)",
      "int say(int)", "int wipe()", "int fault()", "int judge(int)", "int behind(int)", "int cost(int,int)",
      "int spent(int)", "int done()", "int plain(int,int,int)", "int shared(int,int)", "int most(int,int,int)",
      "int least(int,int)", "int ends(int)", "int mark()", "int keep(int,int)", "int seen(int,int)", "int forget()",
      "int leaks(int)", "int where()", "int weigh(int)", "long gust(int,int,int)", "int shares(int,int,int)",
      "int week(int,int,int)", "int image(int)", "int restore(int)", "int told(int)"};
  private static final int[] EDGES = {Integer.MIN_VALUE, -1, 0, 1, 2, 5, 6, 13, 14, 60, 100, 999999, Integer.MAX_VALUE};
  private static int wrong = 0;
  private static int methodsSeen = 0;

  private static void check(boolean ok, String what) {
    if (!ok) {
      wrong++;
      System.out.println(what);
    }
  }

  public static void main(String[] args) throws ReflectiveOperationException, IOException {
    Watch.start();
    checkMembers();
    checkInside();
    checkText(Files.readString(Path.of("src/main/java/OneCan.java")));
    checkNothingThrows();
    System.out.println("face: " + wrong + " wrong, the lengths of " + methodsSeen + " methods seen");
    if (wrong != 0) {
      System.exit(1);
    }
  }

  private static void checkMembers() {
    check(Modifier.isPublic(OneCan.class.getModifiers()) && Modifier.isFinal(OneCan.class.getModifiers()), "public final class");
    TreeSet<String> found = new TreeSet<>();
    TreeSet<String> hidden = new TreeSet<>();
    TreeSet<String> shown = new TreeSet<>();
    for (Method m : OneCan.class.getDeclaredMethods()) {
      if (m.isSynthetic()) {
        continue;
      }
      if (Modifier.isPublic(m.getModifiers())) {
        String types = Arrays.toString(m.getParameterTypes()).replaceAll("[\\[\\] ]", "");
        found.add(m.getReturnType() + " " + m.getName() + "(" + types + ")");
        shown.add(m.getName());
      } else {
        check(Modifier.isPrivate(m.getModifiers()), m + " is not private");
        hidden.add(m.getName());
      }
    }
    check(found.equals(new TreeSet<>(Arrays.asList(FACE))), "methods: " + found);
    hidden.retainAll(shown);
    check(hidden.isEmpty(), "private methods with public names: " + hidden);
    TreeSet<String> constants = new TreeSet<>();
    for (Field f : OneCan.class.getDeclaredFields()) {
      if (f.isSynthetic()) {
        continue;
      }
      check(!Modifier.isStatic(f.getModifiers()) || Modifier.isFinal(f.getModifiers()), f + " is not final");
      if (Modifier.isPublic(f.getModifiers())) {
        constants.add(f.getType() + " " + f.getName());
      } else {
        check(Modifier.isPrivate(f.getModifiers()), f + " is not private");
      }
    }
    check(constants.toString().equals("[int FULL, int NO, int NONE, int OUTSIDE, int STATE, int UNKNOWN, long GONE]"), "constants: " + constants);
    Constructor<?>[] made = OneCan.class.getDeclaredConstructors();
    check(made.length == 1 && made[0].getParameterCount() == 0 && Modifier.isPublic(made[0].getModifiers()), "one constructor");
  }

  /** Where the rules say "some", a few more are let through. */
  private static void checkInside() {
    Class<?>[] inside = OneCan.class.getDeclaredClasses();
    check(inside.length <= 13, "some twelve classes");
    for (Class<?> c : inside) {
      check(Modifier.isStatic(c.getModifiers()), c + " is not static");
      check(!Modifier.isPublic(c.getModifiers()) && !Modifier.isProtected(c.getModifiers()), c + " is to be seen outside");
      int fields = 0;
      for (Field f : c.getDeclaredFields()) {
        fields += Modifier.isStatic(f.getModifiers()) ? 0 : 1;
      }
      check(fields <= 24, c + " has too many fields");
      for (Method m : c.getDeclaredMethods()) {
        check(m.getParameterCount() <= 7, m + " has too many parameters");
      }
    }
  }

  private static void checkText(String text) {
    String bare = text.replaceAll("(?s)/\\*.*?\\*/", "").replaceAll("//[^\n]*", "").replaceAll("\"[^\"\n]*\"", "\"\"");
    String[] words = {"throw", "throws", "try", "catch", "synchronized", "assert", "package", "protected", "native", "volatile",
        "Object", "Thread", "Random"};
    for (String word : words) {
      check(!Pattern.compile("\\b" + word + "\\b").matcher(bare).find(), "the word " + word);
    }
    String noCases = bare.replaceAll("\\b(case [^;:{}]*|default) ->", "");
    check(!noCases.contains("->") && !bare.contains("::"), "a lambda or a method reference");
    Matcher imported = Pattern.compile("\\bimport ([^;]*);").matcher(bare);
    while (imported.find()) {
      check(imported.group(1).matches("java\\.util\\.(ArrayList|List|Iterator|Arrays)"), "import " + imported.group(1));
    }
    Matcher method = Pattern.compile("(?m)^( +)(?:public |private |static )*[\\w\\[\\]]+ \\w+\\([^;]*?\\) \\{\n((?:.*\n)*?)\\1\\}\n").matcher(text);
    while (method.find()) {
      methodsSeen++;
      check(method.group(2).split("\n").length <= 70, "a long method: " + method.group().split("\n")[0]);
    }
  }

  /** Every method, for edges of every argument, in three states. */
  private static void checkNothingThrows() throws ReflectiveOperationException {
    for (int state = 0; state < 3; state++) {
      for (Method m : OneCan.class.getDeclaredMethods()) {
        if (Modifier.isPublic(m.getModifiers())) {
          OneCan x = new OneCan();
          prepare(x, state);
          callAll(x, m, new Object[m.getParameterCount()], 0);
        }
      }
    }
  }

  private static void prepare(OneCan x, int state) {
    for (int i = 0; i < 6 && state > 0; i++) {
      x.meal(i, 1 + i % 4, 10 * i, 1 + 10 * i);
      x.seen(i, 20 - i);
    }
    for (int i = 0; i < 60 && state > 0; i++) {
      x.say(state == 1 ? "~$ax.".charAt(i % 5) : "a$!".charAt(i % 3));
    }
    if (state > 0) {
      x.set(2, 6);
      x.set(0, 4000);
      x.image(0);
    }
  }

  private static void callAll(OneCan x, Method m, Object[] args, int at) throws ReflectiveOperationException {
    if (at == args.length) {
      m.invoke(x, args);
      return;
    }
    if (m.getParameterTypes()[at] == boolean.class) {
      args[at] = true;
      callAll(x, m, args, at + 1);
      return;
    }
    for (int edge : EDGES) {
      args[at] = edge;
      callAll(x, m, args, at + 1);
    }
  }
}
