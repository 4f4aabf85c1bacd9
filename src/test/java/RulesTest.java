import java.lang.reflect.Method;
import java.lang.reflect.Modifier;
import java.nio.file.Files;
import java.nio.file.Path;
import java.util.Set;
import java.util.TreeSet;
import java.util.regex.Matcher;
import java.util.regex.Pattern;

/** The face of the class, and those rules of the language that can be seen from its text. */
public final class RulesTest {
    private static final Check CHECK = new Check();
    private static final String[] FACE = {
        "int back(int)", "int baron(int,int,int)", "boolean change(int,int)", "int changed(int,int,int)", "int count(int)",
        "int critic(int,int,int)", "int deaf(int,int,int)", "int end(int)", "int evenings(int,int,int,int,int)",
        "int fan(int,int)", "int fanned(int,int,int,int,int)", "int feed(int,int,int,int,int)", "boolean goes(int)",
        "int guest(int,int)", "int hall()", "int hushed(int,int)", "int image(int)", "int law()", "int led(int,int)",
        "int log(int,int)", "int seat(int,int,int)", "int seated(int,int,int,int)", "int seed(int)",
        "boolean sits(int,int,int)", "int span(int,int,int,int,int)", "int spy(int,int,int,int,int)",
        "int there(int,int,int)", "int tick(int,int)", "int warms(int,int)", "int without(int,int,int)"};

    public static void main(String[] args) throws Exception {
        face();
        inside();
        text(Files.readString(Path.of("src/main/java/DeafSpot.java"), java.nio.charset.StandardCharsets.ISO_8859_1));
        CHECK.finish();
    }

    private static void face() {
        Set<String> want = new TreeSet<>(Set.of(FACE));
        Set<String> got = new TreeSet<>();
        for (Method m : DeafSpot.class.getDeclaredMethods()) {
            if (!Modifier.isPrivate(m.getModifiers())) {
                String all = m.toString();
                got.add(m.getReturnType() + " " + m.getName() + all.substring(all.indexOf('(')));
                CHECK.due("public " + m, Modifier.isPublic(m.getModifiers()) && !Modifier.isStatic(m.getModifiers()), true);
            }
        }
        CHECK.due("face " + got, got.equals(want), true);
        CHECK.due("constructors", DeafSpot.class.getConstructors().length, 1);
        CHECK.due("all constructors", DeafSpot.class.getDeclaredConstructors().length, 1);
        CHECK.due("fields", DeafSpot.class.getFields().length, 1);
        CHECK.due("final", Modifier.isFinal(DeafSpot.class.getModifiers()), true);
    }

    private static void inside() {
        Class<?>[] classes = DeafSpot.class.getDeclaredClasses();
        CHECK.due("number of classes " + classes.length, classes.length < 12, true);
        Set<String> names = new TreeSet<>();
        for (String call : FACE) {
            names.add(call.replaceAll(".* |\\(.*", ""));
        }
        for (Class<?> c : classes) {
            CHECK.due("static " + c, Modifier.isStatic(c.getModifiers()), true);
            int fields = 0;
            for (java.lang.reflect.Field f : c.getDeclaredFields()) {
                boolean fixed = Modifier.isStatic(f.getModifiers());
                fields += fixed ? 0 : 1;
                CHECK.due("final " + f, !fixed || Modifier.isFinal(f.getModifiers()), true);
            }
            CHECK.due("fields of " + c, fields <= 20, true);
            for (Method m : c.getDeclaredMethods()) {
                CHECK.due("name of " + m, names.contains(m.getName()), false);
                CHECK.due("parameters of " + m, m.getParameterCount() <= 7, true);
            }
        }
    }

    private static void text(String source) {
        String code = source.replaceAll("(?s)/\\*.*?\\*/", "").replaceAll("//[^\n]*", "");
        for (String word : new String[] {"throw", "throws", "try", "catch", "synchronized", "assert", "var", "float", "double",
            "Object", "System\\.(?!arraycopy)", "Exact", "instanceof", "package", "protected", "volatile", "native"}) {
            CHECK.due("no " + word, Pattern.compile("\\b" + word + "\\b|" + word + "\\(").matcher(code).find(), false);
        }
        CHECK.due("no lambda or reference", code.contains("->") || code.contains("::"), false);
        Matcher imports = Pattern.compile("import ([^;]*);").matcher(code);
        while (imports.find()) {
            CHECK.due("import " + imports.group(1), imports.group(1).equals("java.util.Arrays"), true);
        }
        for (int i = 0; i < source.length(); i++) {
            if (source.charAt(i) > 126) {
                CHECK.due("sign " + i, source.charAt(i), ' ');
            }
        }
        lengths(code.split("\n"));
    }

    private static void lengths(String[] lines) {
        int from = -1;
        String closes = "";
        for (int i = 0; i < lines.length; i++) {
            String line = lines[i];
            if (from < 0 && line.matches(" +[^ =;].*\\(.*\\) \\{") && !line.matches(" +(if|for|while|switch|\\}).*")) {
                from = i;
                closes = line.replaceAll("[^ ].*", "") + "}";
            } else if (from >= 0 && line.equals(closes)) {
                CHECK.due("length of " + lines[from].trim(), i - from < 60, true);
                from = -1;
            }
        }
    }
}
