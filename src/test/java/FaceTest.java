import java.io.IOException;
import java.lang.reflect.Member;
import java.lang.reflect.Method;
import java.lang.reflect.Modifier;
import java.nio.file.Files;
import java.nio.file.Path;
import java.util.ArrayList;
import java.util.List;
import java.util.TreeSet;
import java.util.regex.Matcher;
import java.util.regex.Pattern;

/** The face is that of the document, and the file keeps to what can be seen of LANGUAGE.md. */
public final class FaceTest {
  private static final Pattern CALL =
      Pattern.compile("public (\\w+) (\\w+)\\(([^)]*)\\)(?: throws ([\\w, ]+))?;");

  public static void main(String[] args) throws IOException {
    face(Files.readString(Path.of("../shared/DOC.md")));
    members();
    nested();
    text(Files.readString(Path.of("src/main/java/HeroTable.java")));
    Expect.finish("FaceTest");
  }

  private static void face(String document) {
    TreeSet<String> due = new TreeSet<>();
    Matcher call = CALL.matcher(document);
    while (call.find()) {
      String types = call.group(3).replaceAll("(\\w+) \\w+", "$1");
      String thrown = call.group(4) == null ? "" : call.group(4);
      due.add(call.group(1) + " " + call.group(2) + "(" + types + ") " + thrown);
    }
    Expect.same("calls in the document", due.size(), 40);
    TreeSet<String> got = new TreeSet<>();
    for (Method method : HeroTable.class.getDeclaredMethods()) {
      if (Modifier.isPublic(method.getModifiers())) {
        got.add(method.getReturnType() + " " + method.getName() + "("
            + names(method.getParameterTypes()) + ") " + names(method.getExceptionTypes()));
      }
    }
    Expect.same("face", got, due);
    Expect.same("constructors", HeroTable.class.getConstructors().length, 1);
    Expect.yes("final", Modifier.isFinal(HeroTable.class.getModifiers()));
  }

  private static String names(Class<?>[] types) {
    List<String> names = new ArrayList<>();
    for (Class<?> type : types) {
      names.add(type.getSimpleName());
    }
    return String.join(", ", names);
  }

  private static void members() {
    List<Member> all = new ArrayList<>();
    all.addAll(List.of(HeroTable.class.getDeclaredFields()));
    all.addAll(List.of(HeroTable.class.getDeclaredMethods()));
    TreeSet<String> open = new TreeSet<>();
    for (Method method : HeroTable.class.getMethods()) {
      open.add(method.getName());
    }
    for (Member member : all) {
      int kind = member.getModifiers();
      boolean isFace = member instanceof Method && Modifier.isPublic(kind);
      Expect.yes(member + " is private or of the face", isFace || Modifier.isPrivate(kind));
      if (member instanceof Method && !isFace) {
        Expect.no(member + " bears a public name", open.contains(member.getName()));
      }
    }
  }

  private static void nested() {
    Class<?>[] inside = HeroTable.class.getDeclaredClasses();
    Expect.yes("at most twelve classes", inside.length < 12);
    for (Class<?> kind : inside) {
      Expect.no(kind + " public", Modifier.isPublic(kind.getModifiers()));
      Expect.yes(kind + " static", Modifier.isStatic(kind.getModifiers()));
      int fields = 0;
      for (var field : kind.getDeclaredFields()) {
        fields += Modifier.isStatic(field.getModifiers()) ? 0 : 1;
      }
      Expect.yes(kind + " has " + fields + " fields", fields <= 20);
      for (Method method : kind.getDeclaredMethods()) {
        Expect.yes(method + " parameters", method.getParameterCount() <= 7);
      }
    }
  }

  private static void text(String file) {
    String[] never = {
      "catch", "finally", "synchronized", "assert", "->", "::", "record ", "static {", "System.out",
      "Exact(", "double[", "instanceof", "equals(", "hashCode", "toString", "package "
    };
    for (String word : never) {
      Expect.no("the file holds " + word, file.contains(word));
    }
    for (String line : file.split("\n")) {
      if (line.startsWith("import ")) {
        Expect.yes(line, line.equals("import java.util.Arrays;")
            || line.equals("import java.util.NoSuchElementException;"));
      }
    }
  }
}
