import java.lang.reflect.Constructor;
import java.lang.reflect.Executable;
import java.lang.reflect.Field;
import java.lang.reflect.Method;
import java.lang.reflect.Modifier;
import java.nio.charset.StandardCharsets;
import java.nio.file.Files;
import java.nio.file.Path;
import java.util.List;
import java.util.Set;
import java.util.TreeSet;
import java.util.regex.Matcher;
import java.util.regex.Pattern;

/** The document's face, and those rules of LANGUAGE.md that can be seen by a simple look. */
public final class LanguageTest {
  private static final Path SOURCE = Path.of("src/main/java/GraveRows.java");
  private static final String FACE = "as(int,int):int at(int):int back():int border(int,int):int check():int "
      + "coin(int,int):int copy(int,int,int,int,int):int cut(int,int,boolean):int families(int):int "
      + "family(int,int):int fill():int good(int,boolean):int goods(int,int):int grave(int,int,int):int "
      + "holes(int):int in(int):int keep():int later(int,int):int like(int,int,boolean):int "
      + "mark(int,int,boolean):int nearest(int):int of(int,int):int order():int people(int):int "
      + "put(int,int,int):int read(int,int):int share(int,boolean):long sheet(int,int,int):int "
      + "span(int,int,int):int stretches(int):int tell(int):int told(int):int used(int,boolean):int "
      + "ways():int weigh(int,boolean,int):int without(int):int wrong():int year(int,boolean):int";
  private static final List<String> RULED_OUT = List.of(
      "\\bpackage\\b", "\\bimport\\b", "\\bthrows?\\b", "\\btry\\b", "\\bcatch\\b", "\\bfinally\\b", "\\bsynchronized\\b",
      "\\bassert\\b", "->", "::", "\\bequals\\b", "\\bhashCode\\b", "\\btoString\\b", "Exact\\b", "\\bObject\\b",
      "\\bSystem\\.(?!arraycopy\\b)", "\\bMath\\.(?!(abs|max|min)\\b)", "\\bInteger\\.(?!bitCount\\b)", "\\bThread\\b",
      "\\bvar\\b", "\\bdouble\\b", "\\bfloat\\b", "\\bprotected\\b", "\\bstatic \\{", "@");
  private static final int LONGEST_METHOD = 60;

  private static int wrong;

  public static void main(String[] args) throws Exception {
    face();
    classesInside();
    words();
    lengths();
    System.out.println(wrong + " rules are broken");
    if (wrong != 0) {
      System.exit(1);
    }
  }

  private static void must(boolean holds, String rule) {
    if (!holds) {
      wrong++;
      System.out.println(rule);
    }
  }

  private static void face() {
    int modifiers = GraveRows.class.getModifiers();
    must(Modifier.isPublic(modifiers) && Modifier.isFinal(modifiers), "1: the class is not public and final");
    Set<String> found = new TreeSet<>();
    for (Method m : GraveRows.class.getDeclaredMethods()) {
      if (Modifier.isPublic(m.getModifiers())) {
        found.add(told(m));
      } else {
        must(Modifier.isPrivate(m.getModifiers()), "1: not private: " + m);
      }
    }
    must(String.join(" ", found).equals(FACE), "1: the face is " + found);
    Constructor<?>[] constructors = GraveRows.class.getDeclaredConstructors();
    must(constructors.length == 1 && Modifier.isPublic(constructors[0].getModifiers())
        && constructors[0].getParameterCount() == 0, "1: the constructor");
    for (Field f : GraveRows.class.getDeclaredFields()) {
      must(Modifier.isPrivate(f.getModifiers()), "1: not private: " + f);
    }
  }

  private static String told(Method m) {
    StringBuilder text = new StringBuilder(m.getName()).append('(');
    String comma = "";
    for (Class<?> type : m.getParameterTypes()) {
      text.append(comma).append(type.getName());
      comma = ",";
    }
    return text.append("):").append(m.getReturnType().getName()).toString();
  }

  private static void classesInside() {
    Class<?>[] inside = GraveRows.class.getDeclaredClasses();
    must(inside.length <= 11, "11: too many classes");
    Set<String> publicNames = new TreeSet<>();
    for (Method m : GraveRows.class.getMethods()) {
      if (m.getDeclaringClass() == GraveRows.class) {
        publicNames.add(m.getName());
      }
    }
    fieldsAndParameters(GraveRows.class);
    for (Class<?> c : inside) {
      must(Modifier.isStatic(c.getModifiers()) && !Modifier.isPublic(c.getModifiers()), "1, 2: " + c);
      for (Method m : c.getDeclaredMethods()) {
        must(!publicNames.contains(m.getName()), "1: the name of a public one: " + m);
      }
      fieldsAndParameters(c);
    }
  }

  private static void fieldsAndParameters(Class<?> c) {
    int fields = 0;
    for (Field f : c.getDeclaredFields()) {
      if (Modifier.isStatic(f.getModifiers())) {
        must(Modifier.isFinal(f.getModifiers()), "5: not final: " + f);
      } else {
        fields++;
      }
    }
    must(fields <= 20, "11: too many fields: " + c);
    for (Executable e : c.getDeclaredMethods()) {
      must(e.getParameterCount() <= 7, "11: too many parameters: " + e);
    }
  }

  private static void words() throws Exception {
    String text = Files.readString(SOURCE, StandardCharsets.UTF_8);
    must(text.chars().allMatch(c -> c < 128), "3: signs above 127");
    String code = text.replaceAll("(?s)/\\*.*?\\*/", "").replaceAll("//[^\n]*", "");
    for (String word : RULED_OUT) {
      Matcher m = Pattern.compile(word).matcher(code);
      must(!m.find(), "4, 6: " + word);
    }
  }

  private static void lengths() throws Exception {
    int begin = -1;
    String indent = "";
    List<String> lines = Files.readAllLines(SOURCE);
    for (int i = 0; i < lines.size(); i++) {
      Matcher head = Pattern.compile("^( {2}| {4})(?! )[^=;]*\\) \\{$").matcher(lines.get(i));
      if (begin < 0 && head.matches()) {
        begin = i;
        indent = head.group(1);
      } else if (begin >= 0 && lines.get(i).equals(indent + "}")) {
        must(i - begin + 1 <= LONGEST_METHOD, "11: too long: " + lines.get(begin));
        begin = -1;
      }
    }
  }
}
