import java.lang.reflect.Constructor;
import java.lang.reflect.Field;
import java.lang.reflect.Method;
import java.lang.reflect.Modifier;
import java.nio.file.Files;
import java.nio.file.Path;
import java.util.ArrayList;
import java.util.Arrays;
import java.util.List;
import java.util.Set;
import java.util.TreeSet;
import java.util.regex.Matcher;
import java.util.regex.Pattern;

/** The rules of ../shared/LANGUAGE.md that can be seen in the source and in the compiled class. */
public final class LanguageTest {
    private static final String FACE = "worth2 task3 taskOf2 turn2 needs2 strike1 nameOf2 rings0 waits1 person1 of2 change3 "
            + "helps2 take2 exchange2 born1 years1 ahead2 shut1 ends1 choose1 handsFor1 most1 give1 lives2 best1 whom2 seed1 "
            + "feed2 wipe0 text0 hold2 as2 sheet3 write3 copy5 load1 judge2 image0 undo0 tear0 count1 status1";
    private static int wrong;

    public static void main(String[] args) throws Exception {
        face();
        List<Class<?>> inside = Arrays.asList(NameBook.class.getDeclaredClasses());
        check(inside.size() <= 11, "at most some twelve classes");
        for (Class<?> c : inside) {
            int m = c.getModifiers();
            check(Modifier.isStatic(m) && !Modifier.isPublic(m) && !Modifier.isProtected(m), c + " is static, and not public");
            members(c);
        }
        members(NameBook.class);
        source(Files.readString(Path.of("src/main/java/NameBook.java")));
        System.out.println(wrong == 0 ? "the rules are kept" : wrong + " rules are not kept");
        if (wrong != 0) {
            System.exit(1);
        }
    }

    private static void check(boolean holds, String rule) {
        if (!holds) {
            wrong++;
            System.out.println("not kept: " + rule);
        }
    }

    private static void face() {
        Set<String> want = new TreeSet<>(Arrays.asList(FACE.split(" ")));
        Set<String> got = new TreeSet<>();
        for (Method m : NameBook.class.getDeclaredMethods()) {
            if (!Modifier.isPrivate(m.getModifiers())) {
                got.add(m.getName() + m.getParameterCount());
                check(Modifier.isPublic(m.getModifiers()) && !Modifier.isStatic(m.getModifiers()), m + " is public");
                check(m.getReturnType() == int.class, m + " answers an int");
            }
        }
        check(got.equals(want), "the face is that of the document: " + got);
        int m = NameBook.class.getModifiers();
        check(Modifier.isPublic(m) && Modifier.isFinal(m), "public and final");
        for (Field f : NameBook.class.getDeclaredFields()) {
            check(Modifier.isPrivate(f.getModifiers()), f + " is private");
        }
        Constructor<?>[] makers = NameBook.class.getDeclaredConstructors();
        check(makers.length == 1 && Modifier.isPublic(makers[0].getModifiers()), "one public constructor");
    }

    private static void members(Class<?> c) {
        int fields = 0;
        for (Field f : c.getDeclaredFields()) {
            if (!Modifier.isStatic(f.getModifiers())) {
                fields++;
                continue;
            }
            Class<?> t = f.getType();
            check(Modifier.isFinal(f.getModifiers()), f + " is final");
            check(t == int.class || t == int[].class, f + " is a constant of int or int[]");
        }
        check(fields <= 20, c + " has at most twenty fields");
        Set<String> face = new TreeSet<>();
        for (String act : FACE.split(" ")) {
            face.add(act.replaceAll("[0-9]", ""));
        }
        for (Method m : c.getDeclaredMethods()) {
            check(m.getParameterCount() <= 7, m + " has at most seven parameters");
            check(Modifier.isPublic(m.getModifiers()) && c == NameBook.class || !face.contains(m.getName()),
                    m + " does not bear the name of a public one");
        }
    }

    private static void source(String source) {
        String code = source.replaceAll("(?s)/\\*.*?\\*/", "").replaceAll("//[^\n]*", "").replaceAll("\"[^\"\n]*\"", "\"\"");
        for (String word : List.of("throw", "throws", "try", "catch", "finally", "synchronized", "assert", "package",
                "protected", "volatile", "native", "Object", "System\\.out", "double", "float")) {
            check(!Pattern.compile("\\b" + word + "\\b").matcher(code).find(), "no " + word);
        }
        check(!code.contains("->") && !code.contains("::") && !code.contains("Exact("), "no lambda, no reference, no Exact");
        check(!Pattern.compile("\"\"\\s*\\+|\\+\\s*\"\"").matcher(code).find(), "texts are not joined by +");
        for (int i = 0; i < source.length(); i++) {
            check(source.charAt(i) < 128, "signs 1 to 127 alone");
        }
        Matcher imports = Pattern.compile("import ([^;]*);").matcher(code);
        while (imports.find()) {
            check(imports.group(1).equals("java.util.Arrays"), "no other import: " + imports.group(1));
        }
        methods(code);
    }

    /** Methods are short, and only fields and the constructor make objects. */
    private static void methods(String code) {
        List<String> makers = new ArrayList<>();
        String head = "";
        int length = 0;
        for (String line : code.split("\n")) {
            if (line.matches(" {4,8}(?!for|if|while|switch|\\})\\S.*\\) \\{")) {
                head = line;
                length = 0;
            }
            length++;
            if (!head.isEmpty() && line.contains("new ") && !head.equals("    public NameBook() {")) {
                makers.add(head.trim() + " " + line.trim());
            }
            if (line.equals(head.replaceAll("\\S.*", "") + "}")) {
                check(length <= 60, "at most sixty lines: " + head);
                head = "";
            }
        }
        check(makers.isEmpty(), "no objects but in constructors: " + makers);
    }
}
