import java.lang.reflect.Field;
import java.lang.reflect.Method;
import java.lang.reflect.Modifier;
import java.nio.file.Files;
import java.nio.file.Path;
import java.util.ArrayList;
import java.util.Arrays;
import java.util.List;
import java.util.TreeSet;

/** The face of the document, some rules of LANGUAGE.md, and that no call ever throws. */
public final class LanguageTest {
  private static final String FACE = "as(int,int)int ask(int,int)int copy(int,int,int,int,int)int count(int)int "
      + "draws(int,int,int)long drop(int)int far(int,int)int fault()int feed(long,int)int hears(int,int)int "
      + "jammed(int,int,int)int join(int,int)int kind(int)int least(int,int,int)int part(int,int)int "
      + "picks(int,int,int,int,int)int post()int round(int)int run(int,int,int)int schedule()int set(int,int,int)int "
      + "sheet(int,int,int)int spreads(int,int,int)int status()int told(int,int)int trace(int)int";
  private static final int[] ODD = {
    Integer.MIN_VALUE, -1000000, -257, -1, 0, 1, 2, 3, 4, 5, 6, 7, 8, 9, 31, 32, 39, 40, 41, 60, 61, 127, 128, 255, 256,
    Integer.MAX_VALUE - 1, Integer.MAX_VALUE,
  };
  private static final String[] TEXT = {"round ", "0 ", "1 ", "2", ";", "all;", "twice;", "#", " 3;", "\n", "12", "000"};
  private static int seed = 777;

  public static void main(String[] args) throws Exception {
    face();
    names();
    classes();
    staticFields();
    words();
    sizes();
    neverThrows();
    Due.end();
  }

  private static void face() {
    Due.rule(1, "The face: the class of the document, public and final, with the public constructor, methods and constants of the document and no other public, protected or package-visible member,");
    TreeSet<String> all = new TreeSet<>();
    for (Method m : BeepNet.class.getDeclaredMethods()) {
      if (!Modifier.isPrivate(m.getModifiers())) {
        List<String> types = new ArrayList<>();
        for (Class<?> type : m.getParameterTypes()) {
          types.add(type.getName());
        }
        all.add(m.getName() + "(" + String.join(",", types) + ")" + m.getReturnType().getName());
        Due.holds(m.getName() + " is public", Modifier.isPublic(m.getModifiers()));
      }
    }
    Due.holds("the face: " + all, all.equals(new TreeSet<>(Arrays.asList(FACE.split(" ")))));
    Due.is("public constructors", BeepNet.class.getConstructors().length, 1);
    Due.is("constructors", BeepNet.class.getDeclaredConstructors().length, 1);
    Due.is("public constants", BeepNet.class.getFields().length, 4);
    Due.holds("final", Modifier.isFinal(BeepNet.class.getModifiers()));
    Due.is("NONE", BeepNet.NONE, -1000000);
    Due.is("BAD", BeepNet.BAD, -1000001);
    Due.is("STATE", BeepNet.STATE, -1000002);
    Due.is("FULL", BeepNet.FULL, -1000003);
    for (Class<?> c : allClasses()) {
      for (Field f : c.getDeclaredFields()) {
        Due.holds(f + " is private, or a constant of the face",
            Modifier.isPrivate(f.getModifiers()) || c == BeepNet.class && Modifier.isPublic(f.getModifiers()));
      }
    }
  }

  private static List<Class<?>> allClasses() {
    List<Class<?>> all = new ArrayList<>(Arrays.asList(BeepNet.class.getDeclaredClasses()));
    all.add(BeepNet.class);
    return all;
  }

  private static void names() {
    Due.rule(1, "No private method bears the name of a public one.");
    TreeSet<String> publicNames = new TreeSet<>();
    for (Method m : BeepNet.class.getMethods()) {
      publicNames.add(m.getDeclaringClass() == BeepNet.class ? m.getName() : "");
    }
    for (Class<?> c : allClasses()) {
      for (Method m : c.getDeclaredMethods()) {
        boolean ofFace = c == BeepNet.class && Modifier.isPublic(m.getModifiers());
        Due.holds(m + " has a name of its own", ofFace || !publicNames.contains(m.getName()));
      }
    }
  }

  private static void classes() throws Exception {
    Due.rule(2, "No inner class that isn't static, no local or anonymous class, no lambda, no method reference.");
    for (Class<?> c : BeepNet.class.getDeclaredClasses()) {
      Due.holds(c + " is static", Modifier.isStatic(c.getModifiers()));
      Due.is(c + " has no class inside", c.getDeclaredClasses().length, 0);
    }
    Due.holds("no lambda, no method reference", !code().contains("->") && !code().contains("::"));
  }

  private static void staticFields() {
    Due.rule(5, "Static fields are final: constants of int, long, boolean, char or String,");
    for (Class<?> c : allClasses()) {
      for (Field f : c.getDeclaredFields()) {
        if (Modifier.isStatic(f.getModifiers())) {
          Due.holds(f + " is final", Modifier.isFinal(f.getModifiers()));
          Due.holds(f + " is an int or a text", f.getType() == int.class || f.getType() == String.class);
        }
      }
    }
  }

  private static String code() throws Exception {
    String source = Files.readString(Path.of("src/main/java/BeepNet.java"));
    return source.replaceAll("(?s)/\\*.*?\\*/", "").replaceAll("//.*", "");
  }

  private static void words() throws Exception {
    Due.rule(6, "No throw, try, catch, synchronized, assert, switch with patterns, record patterns.");
    String[] refused = {"throw", "throws", "try", "catch", "synchronized", "assert"};
    for (String word : refused) {
      Due.holds("without " + word, !code().matches("(?s).*\\b" + word + "\\b.*"));
    }
    Due.rule(4, "The library: only what stands here.");
    String[] unlisted = {"\\w+Exact", "System\\.out", "Object", "Random", "Thread", "\\w+Exception"};
    for (String word : unlisted) {
      Due.holds("without " + word, !code().matches("(?s).*\\b" + word + "\\b.*"));
    }
    Due.is("one import", code().split("\\bimport ").length - 1, 1);
    Due.holds("it is Arrays", code().contains("import java.util.Arrays;"));
    Due.holds("no package line", !code().matches("(?s).*\\bpackage .*"));
  }

  private static void sizes() throws Exception {
    Due.rule(11, "A method takes at most seven parameters. Methods stay short (some sixty lines),");
    for (Class<?> c : allClasses()) {
      for (Method m : c.getDeclaredMethods()) {
        Due.holds(m + " takes seven at most", m.getParameterCount() <= 7);
      }
    }
    int length = 0;
    for (String line : code().split("\n")) {
      length = line.matches("\\s*|    }|        }") ? 0 : length + 1;
      Due.holds("a method of some sixty lines: " + line, length <= 60);
    }
    Due.rule(11, "the file has at most some twelve classes, and a class some twenty fields beside its constants.");
    Due.holds("at most twelve classes", allClasses().size() <= 12);
    for (Class<?> c : allClasses()) {
      int own = 0;
      for (Field f : c.getDeclaredFields()) {
        own += Modifier.isStatic(f.getModifiers()) ? 0 : 1;
      }
      Due.holds(c + " has twenty fields at most", own <= 20);
    }
  }

  private static int drawn(int below) {
    seed = seed * 1103515245 + 12345;
    return (seed >>> 8) % below;
  }

  // Half of the arguments are small, so that calls get by their refusals.
  private static int odd() {
    return drawn(2) == 0 ? drawn(9) : ODD[drawn(ODD.length)];
  }

  private static void neverThrows() {
    Due.rule(7, "No call may ever throw or fail to end, for any arguments in any state:");
    for (int object = 0; object < 300; object++) {
      sameAnswers();
    }
  }

  private static void sameAnswers() {
    BeepNet x = new BeepNet();
    BeepNet twin = new BeepNet();
    for (int call = 0; call < 512; call++) {
      int what = drawn(28);
      int[] a = {odd(), odd(), odd(), odd(), odd()};
      String text = TEXT[drawn(TEXT.length)];
      Due.is("the same calls, the same answers", answer(x, what, a, text), answer(twin, what, a, text));
    }
  }

  private static long answer(BeepNet x, int what, int[] a, String text) {
    switch (what) {
      case 0: return x.sheet(a[0], a[1], a[2]);
      case 1: return x.set(a[0], a[1], a[2]);
      case 2: return x.copy(a[0], a[1], a[2], a[3], a[4]);
      case 3: return drawnRarely(a) ? x.drop(a[0]) : 0;
      case 4: return x.post();
      case 5: return x.join(a[0], a[1]);
      case 6: return x.part(a[0], a[1]);
      case 7: return x.far(a[0], a[1]);
      case 8: return x.told(a[0], a[1]);
      case 9: return x.hears(a[0] & 1, a[1]);
      case 10: return x.spreads(a[0], a[1], a[2]);
      case 11: return x.feed(a[0] * 4294967297L + a[1], a[2]);
      case 12: return x.schedule();
      case 13: return x.fault();
      case 14: return x.round(a[0]);
      case 15: return x.run(a[0] & 1, a[1], a[2]);
      case 16: return x.least(a[0] & 1, a[1], a[2]);
      case 17: return x.jammed(a[0] & 1, a[1], a[2]);
      case 18: return x.draws(a[0] & 1, a[1], a[2]);
      case 19: return x.picks(a[0], a[1], a[2], a[3], a[4] & 1);
      case 20: return x.kind(a[0]);
      case 21: return x.as(a[0], a[1]);
      case 22: return x.ask(a[0], a[1]);
      case 23: return x.trace(a[0]);
      case 24: return x.count(a[0]);
      case 25: return x.status();
      default: return Due.feed(x, text);
    }
  }

  private static boolean drawnRarely(int[] a) {
    return (a[1] & 3) == 0;
  }
}
