import java.io.IOException;
import java.lang.reflect.Constructor;
import java.lang.reflect.Method;
import java.lang.reflect.Modifier;
import java.nio.file.Files;
import java.nio.file.Path;
import java.util.Arrays;
import java.util.Set;
import java.util.TreeSet;

/** The rules of LANGUAGE.md that can be seen from the program's text and its face. Runs at the project's root. */
public final class LanguageTest {
    private static final Check CHECK = new Check();
    private static final String[] BANNED = {"import ", "package ", "->", "::", "finally", "synchronized", "assert ",
        "Exact(", "instanceof", "catch", "try {", "static {", "System.out", "Thread", "Random", "nanoTime",
        "currentTimeMillis", " float ", " double ", "getMessage"};
    private static final String[] FACE = {"begin 1", "date 2", "age 2", "table 1", "type 1", "wipe 0", "fault 0",
        "questionFault 0", "feast 2", "mend 1", "rank 3", "dispense 3", "takeBack 2", "feasts 0", "bent 2", "day 2",
        "dayByDays 2", "clashes 1", "isMidnight 2", "steps 1", "step 2", "cost 2", "yearCost 1", "search 1", "goOn 1",
        "spent 0", "bells 2", "ringer 2", "rings 4", "silent 1", "peals 2"};

    public static void main(String[] args) throws IOException {
        words();
        face();
        names();
        classes();
        CHECK.finish("LanguageTest");
    }

    private static void words() throws IOException {
        String source = Files.readString(Path.of("src/main/java/AlmanacLoom.java"));
        StringBuilder code = new StringBuilder();
        for (String line : source.split("\n")) {
            String trimmed = line.trim();
            if (!trimmed.startsWith("//") && !trimmed.startsWith("*") && !trimmed.startsWith("/**")) {
                code.append(line).append('\n');
            }
        }
        for (String word : BANNED) {
            CHECK.same("the program has '" + word + "'", code.indexOf(word) >= 0, false);
        }
        CHECK.same("signs of 1 to 127 alone", source.chars().allMatch(sign -> sign >= 1 && sign <= 127), true);
    }

    private static void face() {
        Set<String> got = new TreeSet<>();
        for (Method method : AlmanacLoom.class.getDeclaredMethods()) {
            if (!Modifier.isPrivate(method.getModifiers())) {
                CHECK.same(method.getName() + " is public", Modifier.isPublic(method.getModifiers()), true);
                got.add(method.getName() + " " + method.getParameterCount());
            }
        }
        CHECK.same("the face", got, new TreeSet<>(Arrays.asList(FACE)));
        for (Constructor<?> constructor : AlmanacLoom.class.getDeclaredConstructors()) {
            CHECK.same("the constructor's parameters", constructor.getParameterCount(), 0);
        }
        long shown = Arrays.stream(AlmanacLoom.class.getDeclaredFields())
                .filter(field -> !Modifier.isPrivate(field.getModifiers())).count();
        CHECK.same("fields that are shown", shown, 4);
    }

    private static void names() {
        Set<String> shown = new TreeSet<>();
        for (String name : FACE) {
            shown.add(name.substring(0, name.indexOf(' ')));
        }
        noPrivateBears(shown, AlmanacLoom.class);
        for (Class<?> inside : AlmanacLoom.class.getDeclaredClasses()) {
            noPrivateBears(shown, inside);
        }
    }

    private static void noPrivateBears(Set<String> shown, Class<?> owner) {
        for (Method method : owner.getDeclaredMethods()) {
            boolean isFace = owner == AlmanacLoom.class && Modifier.isPublic(method.getModifiers());
            CHECK.same(owner.getSimpleName() + "." + method.getName() + " bears a name of the face",
                    !isFace && shown.contains(method.getName()), false);
            CHECK.same(method.getName() + " takes more than seven", method.getParameterCount() > 7, false);
        }
    }

    private static void classes() {
        Class<?>[] inside = AlmanacLoom.class.getDeclaredClasses();
        CHECK.same("some twelve classes", inside.length + 1 <= 12, true);
        for (Class<?> owner : inside) {
            CHECK.same(owner + " is static", Modifier.isStatic(owner.getModifiers()), true);
            long fields = Arrays.stream(owner.getDeclaredFields())
                    .filter(field -> !Modifier.isStatic(field.getModifiers())).count();
            CHECK.same(owner + " has some twenty fields", fields <= 20, true);
        }
    }
}
