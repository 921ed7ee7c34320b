import java.io.IOException;
import java.lang.reflect.InvocationTargetException;
import java.lang.reflect.Method;
import java.lang.reflect.Modifier;
import java.nio.file.Files;
import java.nio.file.Path;
import java.util.regex.Matcher;
import java.util.regex.Pattern;

/** README.md is true: its short run answers as it says there, and it tells of each call what a refused one answers. */
public final class ReadmeTest {
    private static final Pattern CALL = Pattern.compile("year\\.(\\w+)\\(([^)]*)\\) +// (throws \\w+|\\S+).*");
    private static final String RUN = "CottageYear year = new CottageYear();\n";
    private static final CottageYear YEAR = new CottageYear();
    private static final Check CHECK = new Check("readme");

    public static void main(String[] args) throws IOException, IllegalAccessException {
        String readme = Files.readString(Path.of("README.md"));
        int first = readme.indexOf(RUN) + RUN.length();
        String[] run = readme.substring(first, readme.indexOf("```", first)).split("\n");
        CHECK.due("a run of some length", run.length > 20, true);
        for (String line : run) {
            makeCall(line);
        }
        String refused = readme.substring(readme.indexOf("## What is refused"), readme.indexOf("## Tests"));
        for (Method method : CottageYear.class.getDeclaredMethods()) {
            if (Modifier.isPublic(method.getModifiers())) {
                CHECK.due("what a refused " + method.getName() + " answers", refused.contains("`" + method.getName() + "`"), true);
            }
        }
        CHECK.end();
    }

    private static void makeCall(String line) throws IllegalAccessException {
        Matcher call = CALL.matcher(line);
        if (!call.matches()) {
            CHECK.due("a call and its answer in '" + line + "'", false, true);
            return;
        }
        String answer = answerOf(call.group(1), call.group(2).isEmpty() ? new String[0] : call.group(2).split(", "));
        CHECK.due(line + " (answered " + answer + ")", answer.equals(call.group(3)), true);
    }

    private static String answerOf(String name, String[] words) throws IllegalAccessException {
        for (Method method : CottageYear.class.getDeclaredMethods()) {
            if (Modifier.isPublic(method.getModifiers()) && method.getName().equals(name)) {
                try {
                    return String.valueOf(method.invoke(YEAR, argumentsOf(method.getParameterTypes(), words)));
                } catch (InvocationTargetException thrown) {
                    return "throws " + thrown.getCause().getClass().getSimpleName();
                }
            }
        }
        return "there is no such call";
    }

    private static Object[] argumentsOf(Class<?>[] types, String[] words) {
        Object[] arguments = new Object[types.length];
        for (int i = 0; i < types.length; i++) {
            if (types[i] == boolean.class) {
                arguments[i] = Boolean.valueOf(words[i]);
            } else if (types[i] == long.class) {
                arguments[i] = Long.valueOf(words[i]);
            } else {
                arguments[i] = Integer.valueOf(words[i]);
            }
        }
        return arguments;
    }
}
