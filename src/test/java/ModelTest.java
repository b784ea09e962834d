import java.lang.reflect.Method;
import java.util.ArrayList;
import java.util.Arrays;
import java.util.HashMap;
import java.util.List;
import java.util.Map;
import java.util.Random;

/** Random runs of calls, the same each time, on a NameBook and on the Model: every answer must be the same. */
public final class ModelTest {
    private static final String[] ACTS = {
        "worth", "task", "task", "task", "taskOf", "turn", "needs", "needs", "strike", "nameOf", "rings", "waits",
        "person", "of", "change", "change", "helps", "helps", "take", "take", "exchange", "born", "years", "years",
        "ahead", "ahead", "shut", "ends", "choose", "handsFor", "most", "give", "lives", "best", "whom", "seed",
        "feed", "wipe", "text", "text", "hold", "as", "sheet", "write", "write", "copy", "load", "judge",
        "image", "undo", "tear", "count", "status"};
    private static final String[] TOKENS = {
        "name", "worth", "task", "wall", "debt", "feud", "letter", "promise", "tower", "hours", "needs", "person",
        "hands", "age", "bears", ";", "0", "1", "3", "7", "8", "9", "39", "40", "99", "100", "999", "1000", "9999",
        "10000", "4294967296", "007", "hour", "x", "X", "\u00e9", "\t"};

    private static final int MOST_CALLS = 512;

    private final Random random;
    private final NameBook book = new NameBook();
    private final Model model = new Model();
    private final Map<String, Method> methods = new HashMap<>();
    private final List<String> calls = new ArrayList<>();
    private final int mostHours;
    private boolean isWrong;

    private ModelTest(long seed) {
        random = new Random(seed);
        mostHours = seed % 3 == 0 ? 999 : seed % 3 == 1 ? 150 : 40;
        for (Method m : NameBook.class.getDeclaredMethods()) {
            if (java.lang.reflect.Modifier.isPublic(m.getModifiers())) {
                methods.put(m.getName(), m);
            }
        }
    }

    public static void main(String[] args) throws Exception {
        int runs = args.length > 0 ? Integer.parseInt(args[0]) : 600;
        int wrong = 0;
        for (int seed = 0; seed < runs; seed++) {
            ModelTest test = new ModelTest(seed);
            test.run();
            if (test.isWrong) {
                wrong++;
                System.out.println("run " + seed + ":");
                test.calls.forEach(System.out::println);
                if (wrong >= 3) {
                    break;
                }
            }
        }
        System.out.println(wrong == 0 ? "the model agrees" : "the model does not agree");
        if (wrong != 0) {
            System.exit(1);
        }
    }

    private void run() throws Exception {
        if (random.nextInt(12) == 0) {
            for (int i = 0; i < 15; i++) {
                both("years", 60);
            }
        }
        if (random.nextInt(9) == 0) {
            fillBook();
        }
        int before = random.nextInt(14);
        for (int i = 0; i < before && !isWrong; i++) {
            both("task", random.nextInt(7), random.nextInt(8), 1 + random.nextInt(mostHours));
        }
        for (int i = random.nextInt(7); i > 0 && !isWrong; i--) {
            both("person", 1 + random.nextInt(9));
        }
        for (int i = 0; i < 140 && !isWrong; i++) {
            step(ACTS[random.nextInt(ACTS.length)]);
        }
    }

    /** As many tasks and persons as there can be; most persons bear a name, so that givings can be asked for. */
    private void fillBook() throws Exception {
        for (int i = 0; i < 20; i++) {
            both("task", random.nextInt(7), random.nextInt(8), 1 + random.nextInt(mostHours));
        }
        for (int p = 0; p < 8; p++) {
            both("person", 1 + random.nextInt(9));
            both("change", p, 1, random.nextInt(40));
            both("take", p, random.nextInt(8));
        }
        for (int i = 0; i < 8; i++) {
            both("needs", random.nextInt(20), random.nextInt(20));
            both("helps", i, random.nextInt(8));
        }
    }

    private void step(String act) throws Exception {
        if (act.equals("text")) {
            feedText(random.nextInt(3) == 0 ? anyText() : goodText());
        }
        int[] a = new int[methods.get(act).getParameterCount()];
        for (int i = 0; i < a.length; i++) {
            a[i] = argument(act, i);
        }
        both(act, a);
    }

    /** No object is asked more often than the document allows: behind that nothing is done. */
    private void both(String act, int... a) throws Exception {
        if (calls.size() >= MOST_CALLS) {
            return;
        }
        Method m = methods.get(act);
        Object[] boxed = new Object[a.length];
        for (int i = 0; i < a.length; i++) {
            boxed[i] = a[i];
        }
        int got = (Integer) m.invoke(book, boxed);
        int want = model.call(act, a);
        String line = act + Arrays.toString(a) + " " + got;
        calls.add(got == want ? line : line + " but the model says " + want);
        isWrong |= got != want;
    }

    private int argument(String act, int i) {
        int dice = random.nextInt(60);
        if (dice == 0) {
            return random.nextInt();
        }
        if (dice == 1) {
            return new int[] {Integer.MIN_VALUE, Integer.MAX_VALUE, -2, -1, 1000, 101}[random.nextInt(6)];
        }
        switch (act + i) {
            case "worth1": return random.nextInt(102) - 1;
            case "task0": case "turn1": case "as1": return random.nextInt(8) - random.nextInt(2);
            case "task2": return 1 + random.nextInt(mostHours);
            case "needs1": case "hold1": return random.nextInt(10) - 1;
            case "taskOf0": case "turn0": case "needs0": case "strike0": case "waits0": case "ends0":
                return random.nextInt(10);
            case "change1": return random.nextInt(8) == 0 ? random.nextInt(4) : 1 + random.nextInt(2);
            case "change2": return random.nextInt(2) == 0 ? random.nextInt(41) : 1 + random.nextInt(9);
            case "helps1": case "take1": return random.nextInt(9) - 1;
            case "born0": return random.nextInt(3);
            case "years0": return random.nextInt(3) == 0 ? random.nextInt(62) : 1 + random.nextInt(8);
            case "ahead0": return random.nextInt(102);
            case "judge1": case "best0": case "whom1": return random.nextInt(62);
            case "most0": case "give0": return random.nextInt(42);
            case "lives1": return random.nextInt(11);
            case "seed0": case "feed0": return random.nextInt();
            case "feed1": return random.nextInt(6);
            case "sheet0": case "write0": case "copy0": case "copy2": case "load0": case "judge0":
                return random.nextInt(15) == 0 ? 4 : random.nextInt(2);
            case "sheet1": return new int[] {0, 8, 8, 16, 32, 32, 7}[random.nextInt(7)];
            case "sheet2": return random.nextInt(9) == 0 ? random.nextInt(43) - 1 : random.nextInt(9);
            case "write1": case "copy1": case "copy3": case "copy4": return random.nextInt(5);
            case "write2": return random.nextInt(4) == 0 ? random.nextInt(70000) : random.nextInt(9) - 1;
            default: return random.nextInt(9);
        }
    }

    private void feedText(String text) throws Exception {
        both("wipe");
        int at = 0;
        while (at < text.length()) {
            int n = Math.min(text.length() - at, 1 + random.nextInt(4));
            int bytes = random.nextInt();
            for (int i = 0; i < n; i++) {
                bytes = bytes << 8 | text.charAt(at++);
            }
            both("feed", bytes, n);
        }
    }

    private String anyText() {
        StringBuilder s = new StringBuilder();
        for (int i = random.nextInt(9); i >= 0; i--) {
            s.append(TOKENS[random.nextInt(TOKENS.length)]).append(blanks());
        }
        return s.toString();
    }

    /** A text that is mostly one without a fault. */
    private String goodText() {
        StringBuilder s = new StringBuilder(blanks());
        for (int i = random.nextInt(5); i >= 0; i--) {
            item(s);
            s.append(blanks()).append(i > 0 ? ";" : "").append(blanks());
        }
        if (random.nextInt(4) == 0) {
            int at = random.nextInt(s.length() + 1);
            s.insert(at, TOKENS[random.nextInt(TOKENS.length)]);
        }
        if (random.nextInt(8) == 0) {
            s.setLength(random.nextInt(s.length() + 1));
        }
        return s.toString();
    }

    private void item(StringBuilder s) {
        int sort = random.nextInt(4);
        if (sort == 0) {
            s.append("name").append(blanks()).append(random.nextInt(8)).append(blanks());
            s.append("worth").append(blanks()).append(random.nextInt(100));
        } else if (sort == 1) {
            s.append("person");
            if (random.nextBoolean()) {
                s.append(" hands").append(blanks()).append(1 + random.nextInt(9));
            }
            if (random.nextBoolean()) {
                s.append(" age").append(blanks()).append(random.nextInt(40));
            }
            if (random.nextBoolean()) {
                s.append(" bears").append(blanks()).append(random.nextInt(8));
            }
        } else {
            s.append(TOKENS[2 + random.nextInt(7)]).append(blanks()).append(random.nextInt(8)).append(blanks());
            s.append("hours").append(blanks()).append(1 + random.nextInt(mostHours));
            if (random.nextInt(3) == 0) {
                s.append(blanks()).append("needs").append(blanks()).append(random.nextInt(6));
            }
        }
    }

    private String blanks() {
        return " ".repeat(random.nextInt(3));
    }
}
