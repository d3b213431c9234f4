import java.lang.reflect.Constructor;
import java.lang.reflect.Field;
import java.lang.reflect.Method;
import java.lang.reflect.Modifier;
import java.nio.file.Files;
import java.nio.file.Path;
import java.util.List;
import java.util.TreeSet;
import java.util.regex.Matcher;
import java.util.regex.Pattern;

/** What a look at the file and the class can tell of ../shared/LANGUAGE.md and of the document's face. */
public final class LanguageTest {
    private static final Check CHECK = new Check("LanguageTest");
    private static final String FACE = "feed(int,int,int,int,int)int end(int)boolean square()int fault(int)int has(int)int "
            + "letter(int,int,int)int person(int,int)int place(int,int)int kept(int,int)int toss(int,int,int)int "
            + "likely(int,int)int stand(int,int)int change(int,int)int later(int,int)int lasts(int,int)int hatless()int "
            + "see()int wears(int)int asked(int)int move(int,int,int)boolean train(int,int,int)boolean noons(int)int "
            + "chance(int)int undo()boolean seed(int)boolean ask()long image()int octet(int)int on()boolean status(int)int";

    private static void face() {
        TreeSet<String> found = new TreeSet<>();
        for (Method one : NoonHat.class.getDeclaredMethods()) {
            StringBuilder text = new StringBuilder(one.getName() + "(");
            for (Class<?> type : one.getParameterTypes()) {
                text.append(text.charAt(text.length() - 1) == '(' ? "" : ",").append(type);
            }
            if (!Modifier.isPrivate(one.getModifiers())) {
                found.add(text + ")" + one.getReturnType());
            }
        }
        TreeSet<String> due = new TreeSet<>(List.of(FACE.split(" ")));
        CHECK.due("the face is " + found, found.equals(due), true);
        for (Constructor<?> one : NoonHat.class.getDeclaredConstructors()) {
            CHECK.due("constructor " + one, Modifier.isPublic(one.getModifiers()) && one.getParameterCount() == 0, true);
        }
        for (Field one : NoonHat.class.getDeclaredFields()) {
            boolean constant = one.getName().equals("NONE") || one.getName().equals("NOTHING");
            CHECK.due("field " + one, Modifier.isPublic(one.getModifiers()) == constant, true);
            CHECK.due("field " + one, constant || Modifier.isPrivate(one.getModifiers()), true);
        }
        CHECK.due("final", Modifier.isFinal(NoonHat.class.getModifiers()), true);
        classes(due);
    }

    private static void classes(TreeSet<String> face) {
        Class<?>[] inside = NoonHat.class.getDeclaredClasses();
        CHECK.due("classes at most 12", inside.length + 1 <= 12, true);
        for (Class<?> one : inside) {
            CHECK.due(one + " is static and not public", Modifier.isStatic(one.getModifiers())
                    && !Modifier.isPublic(one.getModifiers()) && !Modifier.isProtected(one.getModifiers()), true);
            for (Method method : one.getDeclaredMethods()) {
                boolean borne = face.stream().anyMatch(f -> f.startsWith(method.getName() + "("));
                CHECK.due(method + " bears a name of the face", borne, false);
            }
            fields(one);
        }
        fields(NoonHat.class);
    }

    private static void fields(Class<?> one) {
        int count = 0;
        for (Field field : one.getDeclaredFields()) {
            boolean fixed = Modifier.isStatic(field.getModifiers());
            CHECK.due(field + " is final where static", !fixed || Modifier.isFinal(field.getModifiers()), true);
            count += fixed ? 0 : 1;
        }
        CHECK.due("fields of " + one + ": " + count, count <= 20, true);
    }

    private static void words(String source) {
        for (String banned : List.of("throw", "throws", "try", "catch", "synchronized", "assert", "equals", "hashCode",
                "toString", "Object", "lambda", "var", "package", "new ArrayList", "Random", "System.nanoTime")) {
            CHECK.due("the word " + banned, Pattern.compile("\\b" + Pattern.quote(banned) + "\\b").matcher(source).find(),
                    false);
        }
        CHECK.due("a lambda", source.contains("->"), false);
        CHECK.due("a method reference", source.contains("::"), false);
        CHECK.due("an Exact", source.contains("Exact"), false);
        Matcher imports = Pattern.compile("import (.*);").matcher(source);
        while (imports.find()) {
            CHECK.due("import " + imports.group(1), imports.group(1).equals("java.util.Arrays"), true);
        }
        for (char one : source.toCharArray()) {
            CHECK.due("a sign of the source", one == 10 || one >= 32 && one < 127, true);
        }
    }

    /** Methods in this file open on a line that ends with a brace and close at the same depth. */
    private static void methods(List<String> lines) {
        Pattern head = Pattern.compile("^( +)(?:[a-zA-Z\\[\\]]+ )*[a-zA-Z]+\\(([^()]*)\\) \\{$");
        for (int k = 0; k < lines.size(); k++) {
            Matcher m = head.matcher(lines.get(k));
            if (!m.find() || lines.get(k).matches("^ +(if|for|while|switch|} else) .*")) {
                continue;
            }
            int end = k;
            while (!lines.get(end).equals(m.group(1) + "}")) {
                end++;
            }
            CHECK.due("lines of " + lines.get(k).trim() + ": " + (end - k + 1), end - k + 1 <= 60, true);
            CHECK.due("parameters of " + lines.get(k).trim(), m.group(2).split(",").length <= 7, true);
        }
    }

    public static void main(String[] args) throws Exception {
        Path file = Path.of("src/main/java/NoonHat.java");
        String source = Files.readString(file).replaceAll("(?s)/\\*.*?\\*/", "").replaceAll("//.*", "");
        face();
        words(source);
        methods(Files.readAllLines(file));
        CHECK.end();
    }
}
