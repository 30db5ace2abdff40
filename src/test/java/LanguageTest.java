import java.io.IOException;
import java.lang.reflect.Executable;
import java.lang.reflect.Field;
import java.lang.reflect.Modifier;
import java.nio.file.Files;
import java.nio.file.Path;
import java.util.ArrayList;
import java.util.List;
import java.util.regex.Matcher;
import java.util.regex.Pattern;

/** Rules of LANGUAGE.md that a look at the program's words and members can watch; run from the project's folder. */
public final class LanguageTest {
    private static final int MOST_FIELDS = 20, MOST_PARAMETERS = 7;

    public static void main(String[] args) throws IOException {
        String program = Files.readString(Path.of("src/main/java/TradeFloor.java"));
        String code = program.replaceAll("(?s)/\\*.*?\\*/", "").replaceAll("//[^\n]*", "")
                .replaceAll("\"[^\"\n]*\"", "\"\"");
        String[] forbidden = {"package", "throw", "throws", "try", "catch", "finally", "synchronized",
            "assert", "protected"};
        for (String word : forbidden) {
            Desk.check(!Pattern.compile("\\b" + word + "\\b").matcher(code).find(), "the program says " + word);
        }
        Desk.check(!Pattern.compile("\\bimport (?!java\\.util\\.(ArrayList|List|Arrays|Iterator);)").matcher(code).find(),
                "an import beyond the library that is listed");
        Desk.check(!Pattern.compile("\\bSystem\\.(?!arraycopy\\b)").matcher(code).find(), "a call to the system");
        Desk.check(!code.contains("->") && !code.contains("::"), "a lambda or a method reference");
        Desk.check(!Pattern.compile("\"\\s*\\+|\\+\\s*\"").matcher(code).find(), "texts joined by +");
        Desk.check(!Pattern.compile("private[^=;(]* (feed|line|order|trader|level|trade|count)\\(").matcher(code).find(),
                "a private method with the name of a public one");
        nestedClassesAreStatic(code);
        membersStaySmall(TradeFloor.class);
        for (Class<?> inside : TradeFloor.class.getDeclaredClasses()) {
            membersStaySmall(inside);
        }
        Desk.finish();
    }

    private static void nestedClassesAreStatic(String code) {
        Matcher classes = Pattern.compile("([a-z ]*)\\bclass (\\w+)").matcher(code);
        int found = 0;
        while (classes.find()) {
            found++;
            boolean outer = classes.group(2).equals("TradeFloor");
            Desk.check(outer || classes.group(1).contains("private static"), classes.group(2) + " is not static");
        }
        Desk.check(found <= 12, "too many classes: " + found);
    }

    private static void membersStaySmall(Class<?> owner) {
        int fields = 0;
        for (Field field : owner.getDeclaredFields()) {
            if (!Modifier.isStatic(field.getModifiers())) {
                fields++;
                continue;
            }
            Class<?> type = field.getType();
            boolean plain = List.of(int.class, long.class, boolean.class, char.class, String.class).contains(type);
            Desk.check(plain && Modifier.isFinal(field.getModifiers()), field + " is static and no constant");
        }
        Desk.check(fields <= MOST_FIELDS, owner + " has " + fields + " fields");
        List<Executable> calls = new ArrayList<>(List.of(owner.getDeclaredMethods()));
        calls.addAll(List.of(owner.getDeclaredConstructors()));
        for (Executable call : calls) {
            Desk.check(call.getParameterCount() <= MOST_PARAMETERS, call + " takes too many parameters");
        }
    }
}
