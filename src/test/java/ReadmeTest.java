import java.io.IOException;
import java.nio.file.Files;
import java.nio.file.Path;
import java.util.ArrayList;
import java.util.List;
import java.util.regex.Matcher;
import java.util.regex.Pattern;

/** The example of README.md answers what its comments say. Runs in the project's folder. */
public final class ReadmeTest {
  private static final Pattern LINE = Pattern.compile("(.*;) +// (true|-?[0-9]+)\\b.*");

  public static void main(String[] args) throws IOException {
    Copperleaf store = new Copperleaf();
    List<String> answers = new ArrayList<>();
    add(answers, "store.beginBatch();", store.beginBatch());
    add(answers, "store.put(7, 70);", store.put(7, 70));
    add(answers, "store.put(8, 80);", store.put(8, 80));
    add(answers, "store.commit();", store.commit());
    int reader = store.openReader();
    add(answers, "int reader = store.openReader();", reader);
    add(answers, "store.beginBatch();", store.beginBatch());
    add(answers, "store.delete(7);", store.delete(7));
    add(answers, "store.get(-1, 8);", store.get(-1, 8));
    add(answers, "store.get(reader, 7);", store.get(reader, 7));
    add(answers, "store.crashInCommit(2);", store.crashInCommit(2));
    add(answers, "store.epochOf(-1);", store.epochOf(-1));
    add(answers, "store.get(-1, 7);", store.get(-1, 7));
    Checks.due("the example", told().toString(), answers.toString());
    Checks.close();
  }

  private static void add(List<String> answers, String call, Object answer) {
    answers.add(call + " " + answer);
  }

  /** The calls of the example with the first word of their comments. */
  private static List<String> told() throws IOException {
    List<String> calls = new ArrayList<>();
    for (String line : Files.readAllLines(Path.of("README.md"))) {
      Matcher matcher = LINE.matcher(line);
      if (matcher.matches()) {
        calls.add(matcher.group(1) + " " + matcher.group(2));
      }
    }
    return calls;
  }
}
