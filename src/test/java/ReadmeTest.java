import java.io.IOException;
import java.lang.reflect.Method;
import java.nio.file.Files;
import java.nio.file.Path;
import java.util.List;

/** README.md, read from the project's root: it tells every call, and its example is right. */
public final class ReadmeTest {
  private static int wrong = 0;

  private static void tell(String what) {
    wrong++;
    System.out.println(what);
  }

  /** The answer that the example gives for a call: what stands behind its // up to a word. */
  private static String answerTold(List<String> lines, String call) {
    for (String line : lines) {
      int comment = line.indexOf("// ");
      if (comment > 0 && line.substring(0, comment).strip().equals(call + ";")) {
        return line.substring(comment + 3).split("[: ]")[0];
      }
    }
    return "nothing";
  }

  private static void due(List<String> lines, String call, Object got) {
    String told = answerTold(lines, call);
    if (!told.equals(String.valueOf(got))) {
      tell(call + " answers " + got + ", README.md tells " + told);
    }
  }

  private static void dueLine(List<String> lines, String code, int got, int want) {
    if (lines.stream().noneMatch(line -> line.startsWith(code + ";"))) {
      tell("README.md has no line " + code);
    }
    if (got != want) {
      tell(code + " answers " + got + ", due is " + want);
    }
  }

  private static void example(List<String> lines) {
    OddsSampling x = new OddsSampling();
    int rain = x.fact(1, 3);
    int wind = x.fact(1, 2);
    int storm = x.set(1 << rain | 1 << wind, 0);
    int dry = x.set(0, 1 << rain);
    int either = x.join(1, storm, dry);
    int one = x.some(3, 1, 1);
    dueLine(lines, "int rain = x.fact(1, 3)", rain, 0);
    dueLine(lines, "int wind = x.fact(1, 2)", wind, 1);
    dueLine(lines, "int storm = x.set(1 << rain | 1 << wind, 0)", storm, 0);
    dueLine(lines, "int dry = x.set(0, 1 << rain)", dry, 1);
    dueLine(lines, "int either = x.join(1, storm, dry)", either, 2);
    dueLine(lines, "int one = x.some(3, 1, 1)", one, 3);
    due(lines, "x.chance(either, 0)", x.chance(either, 0));
    due(lines, "x.chance(either, 1)", x.chance(either, 1));
    due(lines, "x.real(one)", x.real(one));
    due(lines, "x.given(storm, either)", x.given(storm, either));
    due(lines, "x.influence(storm, wind, 0)", x.influence(storm, wind, 0));
    due(lines, "x.influence(storm, wind, 1)", x.influence(storm, wind, 1));
    due(lines, "x.holds(one, 2)", x.holds(one, 2));
    due(lines, "x.hangs(dry)", x.hangs(dry));
    due(lines, "x.worlds(either)", x.worlds(either));
    due(lines, "x.likeliest(storm)", x.likeliest(storm));
    due(lines, "x.weight(storm)", x.weight(storm));
    due(lines, "x.same(one, either)", x.same(one, either));
    due(lines, "x.questions()", x.questions());
    due(lines, "x.sample(storm, 42L, 200)", x.sample(storm, 42L, 200));
    due(lines, "x.seed()", x.seed());
    due(lines, "x.odds(rain, 2, 3)", x.odds(rain, 2, 3));
    due(lines, "x.chance(storm, 1)", x.chance(storm, 1));
  }

  private static void everyCallIsTold(List<String> lines) {
    for (Method method : OddsSampling.class.getDeclaredMethods()) {
      if (java.lang.reflect.Modifier.isPublic(method.getModifiers())) {
        String name = method.getName();
        if (lines.stream().noneMatch(line -> line.startsWith("| `" + name + "("))) {
          tell("README.md does not say what " + name + " does");
        }
      }
    }
  }

  private static void testsAreTold(List<String> lines) throws IOException {
    String text = String.join("\n", lines);
    if (!text.contains("`.ci/run`")) {
      tell("README.md does not say how to run the tests");
    }
    try (var tests = Files.list(Path.of("src/test/java"))) {
      for (Path test : tests.toList()) {
        String name = test.getFileName().toString().replace(".java", "");
        if (!text.contains("- `" + name + "`: ")) {
          tell("README.md does not say what " + name + " tests");
        }
      }
    }
  }

  public static void main(String[] args) throws IOException {
    List<String> lines = Files.readAllLines(Path.of("README.md"));
    example(lines);
    everyCallIsTold(lines);
    testsAreTold(lines);
    System.out.println(wrong == 0 ? "all answers are as due" : wrong + " answers are not as due");
    if (wrong != 0) {
      System.exit(1);
    }
  }
}
