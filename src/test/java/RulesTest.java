import java.lang.reflect.Field;
import java.lang.reflect.Method;
import java.lang.reflect.Modifier;
import java.nio.file.Files;
import java.nio.file.Path;
import java.util.ArrayList;
import java.util.HashSet;
import java.util.List;
import java.util.Set;

/** Rules of LANGUAGE.md that can be seen from the text of the program and from its members. */
public final class RulesTest {
    private static final String[] FORBIDDEN = {"->", "::", "catch", "finally", "synchronized", "assert ", "hashCode",
        "instanceof", "System.out", "package ", "@Override", "equals("};

    public static void main(String[] args) throws Exception {
        List<String> lines = Files.readAllLines(Path.of("src/main/java/TakeLog.java"));
        int start = 0;
        for (int k = 0; k < lines.size(); k++) {
            String line = lines.get(k);
            String at = "line " + (k + 1);
            String code = line.strip();
            boolean comment = code.startsWith("//") || code.startsWith("/**");
            for (String word : FORBIDDEN) {
                Check.due(at + " has " + word, !comment && line.contains(word) ? 1 : 0, 0);
            }
            if (code.startsWith("import ")) {
                Check.due(at, code, "import java.util.Arrays;");
            }
            if (code.endsWith("{") && code.contains("(") && !code.matches("(} )?(else )?(if|for|while|switch|do)\\b.*")) {
                start = k;
            }
            if (line.equals("    }") || line.equals("        }")) {
                Check.due(at + " ends a method that is too long", k - start > 60 ? 1 : 0, 0);
            }
        }
        names();
        fields();
        Check.end("RulesTest");
    }

    /** No private method bears the name of a public one. */
    private static void names() {
        Set<String> face = new HashSet<>();
        for (Method m : TakeLog.class.getDeclaredMethods()) {
            if (Modifier.isPublic(m.getModifiers())) {
                face.add(m.getName());
            }
        }
        for (Method m : TakeLog.class.getDeclaredMethods()) {
            hidden(face, m);
        }
        for (Class<?> inside : TakeLog.class.getDeclaredClasses()) {
            Check.due(inside.getName() + " is static", inside.getModifiers() & Modifier.STATIC, Modifier.STATIC);
            for (Method m : inside.getDeclaredMethods()) {
                hidden(face, m);
            }
        }
    }

    /** Static fields are final constants; at most twelve classes, with at most twenty other fields each. */
    private static void fields() {
        List<Class<?>> all = new ArrayList<>(List.of(TakeLog.class.getDeclaredClasses()));
        all.add(TakeLog.class);
        Check.due("too many classes", all.size() > 12 ? 1 : 0, 0);
        Set<Class<?>> constants = Set.of(int.class, long.class, boolean.class, char.class, String.class, int[].class,
                long[].class, char[].class, byte[].class);
        for (Class<?> one : all) {
            int others = 0;
            for (Field f : one.getDeclaredFields()) {
                boolean isStatic = Modifier.isStatic(f.getModifiers());
                boolean constant = Modifier.isFinal(f.getModifiers()) && constants.contains(f.getType());
                Check.due(one.getName() + "." + f.getName(), isStatic && !constant ? 1 : 0, 0);
                others += isStatic ? 0 : 1;
            }
            Check.due("too many fields of " + one.getName(), others > 20 ? 1 : 0, 0);
        }
    }

    private static void hidden(Set<String> face, Method m) {
        if (!Modifier.isPublic(m.getModifiers())) {
            Check.due("the name " + m.getName(), face.contains(m.getName()) ? 1 : 0, 0);
        }
        Check.due("the parameters of " + m.getName(), m.getParameterCount() > 7 ? 1 : 0, 0);
    }
}
