import java.lang.reflect.Array;
import java.lang.reflect.Constructor;
import java.lang.reflect.Field;
import java.lang.reflect.Method;
import java.lang.reflect.Modifier;
import java.nio.file.Files;
import java.nio.file.Path;
import java.util.Arrays;
import java.util.Collections;
import java.util.IdentityHashMap;
import java.util.List;
import java.util.Set;
import java.util.TreeSet;
import java.util.regex.Matcher;
import java.util.regex.Pattern;

/** The rules of ../shared/LANGUAGE.md that can be seen in the source and in the compiled class. */
public final class LanguageTest {
    private static final String FACE = "worth2 task3 taskOf2 turn2 needs2 strike1 nameOf2 rings0 waits1 person1 of2 change3 "
            + "helps2 take2 exchange2 born1 years1 ahead2 shut1 ends1 choose1 handsFor1 most1 give1 lives2 best1 whom2 seed1 "
            + "feed2 wipe0 text0 hold2 as2 sheet3 write3 copy5 load1 judge2 image0 undo0 tear0 count1 status1";
    private static int wrong;

    public static void main(String[] args) throws Exception {
        face();
        List<Class<?>> inside = Arrays.asList(NameBook.class.getDeclaredClasses());
        check(inside.size() <= 11, "at most some twelve classes");
        for (Class<?> c : inside) {
            int m = c.getModifiers();
            check(Modifier.isStatic(m) && !Modifier.isPublic(m) && !Modifier.isProtected(m), c + " is static, and not public");
            members(c);
        }
        members(NameBook.class);
        Path source = Path.of("src/main/java/NameBook.java");
        source(Files.readString(source));
        SourceRules.brokenIn(source).forEach(rule -> check(false, rule));
        room(new NameBook());
        System.out.println(wrong == 0 ? "the rules are kept" : wrong + " rules are not kept");
        if (wrong != 0) {
            System.exit(1);
        }
    }

    private static void check(boolean holds, String rule) {
        if (!holds) {
            wrong++;
            System.out.println("not kept: " + rule);
        }
    }

    private static void face() {
        Set<String> want = new TreeSet<>(Arrays.asList(FACE.split(" ")));
        Set<String> got = new TreeSet<>();
        for (Method m : NameBook.class.getDeclaredMethods()) {
            if (!Modifier.isPrivate(m.getModifiers())) {
                got.add(m.getName() + m.getParameterCount());
                check(Modifier.isPublic(m.getModifiers()) && !Modifier.isStatic(m.getModifiers()), m + " is public");
                check(m.getReturnType() == int.class, m + " answers an int");
            }
        }
        check(got.equals(want), "the face is that of the document: " + got);
        int m = NameBook.class.getModifiers();
        check(Modifier.isPublic(m) && Modifier.isFinal(m), "public and final");
        for (Field f : NameBook.class.getDeclaredFields()) {
            check(Modifier.isPrivate(f.getModifiers()), f + " is private");
        }
        Constructor<?>[] makers = NameBook.class.getDeclaredConstructors();
        check(makers.length == 1 && Modifier.isPublic(makers[0].getModifiers()), "one public constructor");
    }

    private static void members(Class<?> c) {
        int fields = 0;
        for (Field f : c.getDeclaredFields()) {
            if (!Modifier.isStatic(f.getModifiers())) {
                fields++;
                continue;
            }
            Class<?> t = f.getType();
            check(Modifier.isFinal(f.getModifiers()), f + " is final");
            check(t == int.class || t == int[].class, f + " is a constant of int or int[]");
        }
        check(fields <= 20, c + " has at most twenty fields");
        Set<String> face = new TreeSet<>();
        for (String act : FACE.split(" ")) {
            face.add(act.replaceAll("[0-9]", ""));
        }
        for (Method m : c.getDeclaredMethods()) {
            check(m.getParameterCount() <= 7, m + " has at most seven parameters");
            check(Modifier.isPublic(m.getModifiers()) && c == NameBook.class || !face.contains(m.getName()),
                    m + " does not bear the name of a public one");
        }
    }

    /** What SourceRules does not see: the compiler takes it all the same. */
    private static void source(String source) {
        check(!Pattern.compile("(?m)^package ").matcher(source).find(), "no package line");
        check(source.chars().allMatch(sign -> sign < 128), "signs 1 to 127 alone");
        Matcher imports = Pattern.compile("(?m)^import ([^;]*);").matcher(source);
        while (imports.find()) {
            check(imports.group(1).equals("java.util.Arrays"), "no other import: " + imports.group(1));
        }
    }

    /** All calls of one run live in one room: a book is small, and no call makes more (SourceRules looks at that). */
    private static void room(NameBook book) throws IllegalAccessException {
        Set<Object> seen = Collections.newSetFromMap(new IdentityHashMap<>());
        int cells = cells(book, seen);
        check(seen.size() <= 60 && cells <= 900, "a book has " + seen.size() + " objects, " + cells + " fields and elements");
    }

    private static int cells(Object o, Set<Object> seen) throws IllegalAccessException {
        if (o == null || !seen.add(o)) {
            return 0;
        }
        int sum = 0;
        if (o.getClass().isArray()) {
            sum = Array.getLength(o);
            for (int i = 0; o instanceof Object[] && i < Array.getLength(o); i++) {
                sum += cells(Array.get(o, i), seen);
            }
            return sum;
        }
        for (Field f : o.getClass().getDeclaredFields()) {
            if (Modifier.isStatic(f.getModifiers())) {
                continue;
            }
            f.setAccessible(true);
            sum += 1 + (f.getType().isPrimitive() ? 0 : cells(f.get(o), seen));
        }
        return sum;
    }
}
