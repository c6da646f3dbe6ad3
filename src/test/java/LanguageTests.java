import java.io.IOException;
import java.lang.reflect.Field;
import java.lang.reflect.Method;
import java.lang.reflect.Modifier;
import java.nio.file.Files;
import java.nio.file.Path;
import java.util.ArrayList;
import java.util.HashSet;
import java.util.List;
import java.util.Set;
import java.util.TreeSet;
import java.util.regex.Matcher;
import java.util.regex.Pattern;

/** The face of the document, and those rules of ../shared/LANGUAGE.md that can be read from the class as it stands. */
public final class LanguageTests {
    private static final Path SOURCE = Path.of("src/main/java/Leadchapel.java");
    private static final Path DOCUMENT = Path.of("../shared/DOC.md");
    private static int wrong;

    private LanguageTests() {
    }

    private static void holds(boolean is, String what) {
        if (!is) {
            wrong++;
            System.out.println("does not hold: " + what);
        }
    }

    private static String simple(Class<?>[] types) {
        List<String> names = new ArrayList<>();
        for (Class<?> type : types) {
            names.add(type.getSimpleName());
        }
        return String.join(", ", names);
    }

    private static Set<String> documentedMethods(String document) {
        Set<String> due = new TreeSet<>();
        Matcher method = Pattern.compile("^    public (int|void) (\\w+)\\((.*?)\\)(?: throws (.*))?;$", Pattern.MULTILINE)
                .matcher(document);
        while (method.find()) {
            String parameters = method.group(3).replaceAll("(\\w+) \\w+", "$1");
            String thrown = method.group(4) == null ? "" : method.group(4);
            due.add(method.group(1) + " " + method.group(2) + "(" + parameters + ") " + thrown);
        }
        return due;
    }

    private static void face() throws IOException {
        Set<String> due = documentedMethods(Files.readString(DOCUMENT));
        holds(due.size() == 43, "the document has 43 methods, found " + due.size());
        Set<String> got = new TreeSet<>();
        Set<String> publicNames = new HashSet<>();
        for (Method method : Leadchapel.class.getDeclaredMethods()) {
            if (Modifier.isPublic(method.getModifiers())) {
                got.add(method.getReturnType().getSimpleName() + " " + method.getName() + "("
                        + simple(method.getParameterTypes()) + ") " + simple(method.getExceptionTypes()));
                publicNames.add(method.getName());
                holds(!Modifier.isStatic(method.getModifiers()), method + " is of an object");
            } else {
                holds(Modifier.isPrivate(method.getModifiers()), method + " is private");
            }
        }
        holds(due.equals(got), "the face: due " + due + " got " + got);
        holds(Leadchapel.class.getConstructors().length == 1, "one public constructor");
        holds(Leadchapel.class.getDeclaredConstructors().length == 1, "no other constructor");
        int shown = Modifier.PUBLIC | Modifier.FINAL;
        holds((Leadchapel.class.getModifiers() & shown) == shown, "the class is public and final");
        constants();
        for (Class<?> inner : allClasses()) {
            for (Method method : inner.getDeclaredMethods()) {
                boolean isFace = inner == Leadchapel.class && Modifier.isPublic(method.getModifiers());
                holds(isFace || !publicNames.contains(method.getName()), method + " bears the name of a public one");
            }
        }
    }

    private static void constants() {
        Set<String> shown = new TreeSet<>();
        for (Field field : Leadchapel.class.getDeclaredFields()) {
            if (Modifier.isPublic(field.getModifiers())) {
                shown.add(field.getName());
                holds(field.getType() == int.class, field + " is an int");
            } else {
                holds(Modifier.isPrivate(field.getModifiers()), field + " is private");
            }
        }
        holds(shown.equals(Set.of("NONE", "OPEN", "LOCKED", "ON", "DONE", "GONE")), "the constants: " + shown);
    }

    private static List<Class<?>> allClasses() {
        List<Class<?>> all = new ArrayList<>(List.of(Leadchapel.class.getDeclaredClasses()));
        all.add(Leadchapel.class);
        return all;
    }

    private static void classes() {
        holds(allClasses().size() <= 12, "at most twelve classes: " + allClasses().size());
        for (Class<?> one : allClasses()) {
            holds(one == Leadchapel.class || Modifier.isStatic(one.getModifiers()), one + " is static");
            holds(one == Leadchapel.class || !Modifier.isPublic(one.getModifiers()), one + " is not public");
            int fields = 0;
            for (Field field : one.getDeclaredFields()) {
                if (Modifier.isStatic(field.getModifiers())) {
                    holds(Modifier.isFinal(field.getModifiers()), field + " is final");
                    holds(field.getType().isPrimitive(), field + " is a constant");
                } else {
                    fields++;
                }
            }
            holds(fields <= 20, one + " has at most twenty fields");
            for (Method method : one.getDeclaredMethods()) {
                holds(method.getParameterCount() <= 7, method + " has at most seven parameters");
                holds(!method.isSynthetic(), method + " is written");
            }
        }
    }

    private static void source() throws IOException {
        String code = Files.readString(SOURCE);
        holds(code.chars().allMatch(sign -> sign == '\n' || sign >= ' ' && sign < 127), "plain signs alone");
        for (String line : code.split("\n")) {
            holds(line.length() <= 120, "a line of at most 120 signs: " + line);
        }
        for (String broken : new SourceRules(SOURCE).broken) {
            holds(false, broken);
        }
        sections(code, Files.readString(DOCUMENT));
    }

    /** "Ahead of the calls .. the interface says: ---- ..": these stand in the source behind such a line, in order. */
    private static void sections(String code, String document) {
        Matcher section = Pattern.compile("Ahead of the calls (.*?) the interface says: (---- .*?)\\.\n")
                .matcher(document);
        int at = 0;
        int found = 0;
        while (section.find()) {
            at = code.indexOf("    // " + section.group(2) + "\n", at);
            holds(at >= 0, "the line " + section.group(2));
            int end = code.indexOf("    // ---- ", at + 1);
            for (String name : section.group(1).replace("`", "").split(", ")) {
                at = code.indexOf(" " + name + "(", at);
                holds(at >= 0 && at < end, name + " behind the line " + section.group(2));
                found++;
            }
        }
        holds(found == 43, "the document tells of 43 calls in sections, found " + found);
    }

    public static void main(String[] args) throws IOException {
        face();
        classes();
        source();
        System.out.println(wrong == 0 ? "the face and the language are as told" : wrong + " rules do not hold");
        if (wrong > 0) {
            System.exit(1);
        }
    }
}
