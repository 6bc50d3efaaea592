import java.lang.reflect.Constructor;
import java.lang.reflect.Field;
import java.lang.reflect.Member;
import java.lang.reflect.Method;
import java.lang.reflect.Modifier;
import java.nio.file.Files;
import java.nio.file.Path;
import java.util.ArrayList;
import java.util.Collections;
import java.util.List;
import java.util.regex.Matcher;
import java.util.regex.Pattern;

/** The class has the members of the document's face, as the document writes them, and no other visible one. */
public final class GuardRosterFaceTest {
    public static void main(String[] args) throws Exception {
        Check check = new Check();
        check.at("face");
        List<String> due = faceOfDocument();
        check.same("56", String.valueOf(due.size()));
        check.same(String.join("\n", due), String.join("\n", faceOfClass()));
        check.same("true", String.valueOf(Modifier.isFinal(GuardRoster.class.getModifiers())));
        for (Class<?> inner : GuardRoster.class.getDeclaredClasses()) {
            int flags = inner.getModifiers();
            check.same("true", String.valueOf(Modifier.isStatic(flags) && !Modifier.isPublic(flags)));
        }
        check.end();
    }

    private static List<String> faceOfDocument() throws Exception {
        String document = Files.readString(Path.of("../shared/DOC.md"));
        String face = document.split("```java")[1].split("```")[0];
        List<String> lines = new ArrayList<>();
        Matcher member = Pattern.compile("\n    (public [^;]*);").matcher(face);
        while (member.find()) {
            // The parameters' names do not stand in the compiled class.
            lines.add(member.group(1).replaceAll("(int|char) \\w+(?=[,)])", "$1"));
        }
        Collections.sort(lines);
        return lines;
    }

    private static List<String> faceOfClass() throws Exception {
        List<String> lines = new ArrayList<>();
        for (Field field : GuardRoster.class.getDeclaredFields()) {
            if (isVisible(field)) {
                lines.add(Modifier.toString(field.getModifiers()) + " " + field.getType().getSimpleName() + " "
                        + field.getName() + " = " + field.getInt(null));
            }
        }
        for (Constructor<?> constructor : GuardRoster.class.getDeclaredConstructors()) {
            if (isVisible(constructor)) {
                lines.add("public GuardRoster(" + names(constructor.getParameterTypes()) + ")"
                        + throwsClause(constructor.getExceptionTypes()));
            }
        }
        for (Method method : GuardRoster.class.getDeclaredMethods()) {
            if (isVisible(method)) {
                lines.add(Modifier.toString(method.getModifiers()) + " " + method.getReturnType().getSimpleName() + " "
                        + method.getName() + "(" + names(method.getParameterTypes()) + ")"
                        + throwsClause(method.getExceptionTypes()));
            }
        }
        Collections.sort(lines);
        return lines;
    }

    private static boolean isVisible(Member member) {
        return !member.isSynthetic() && !Modifier.isPrivate(member.getModifiers());
    }

    private static String names(Class<?>[] types) {
        List<String> names = new ArrayList<>();
        for (Class<?> type : types) {
            names.add(type.getSimpleName());
        }
        return String.join(", ", names);
    }

    private static String throwsClause(Class<?>[] types) {
        return types.length == 0 ? "" : " throws " + names(types);
    }
}
