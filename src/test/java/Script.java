import java.lang.reflect.InvocationTargetException;
import java.lang.reflect.Method;
import java.lang.reflect.Modifier;
import java.util.ArrayList;
import java.util.Arrays;
import java.util.HashMap;
import java.util.List;
import java.util.Map;
import java.util.Set;
import java.util.function.Function;
import java.util.regex.Matcher;
import java.util.regex.Pattern;

/**
 * A run of calls on one new book, written as lines of text:
 * act(1, 2) = 3 is a call with the answer that is due (a number, a finding's name, or fault and a place; ? stands for
 * any that is no finding);
 * act(1, 2) only prepares, and must not answer a finding; 20 x act(1, 2) does so twenty times;
 * feed "..." puts a text on the tape, read "..." = 3 reads it too; year 99 lets years go till then.
 *
 * Whatever is refused is set against a twin of the book on which the call was not made: all that can be seen of both
 * must be the same, but for status(). So it is for a question that is answered, status() and all, and for a text with
 * a fault, whose twin only wipes the tape.
 */
final class Script {
    private static final int LOW = -1000001;
    private static final int MOST_CALLS = 512;
    private static final List<String> FINDINGS = List.of("BEYOND", "FULL", "KIND", "NONE", "STATE", "MISSING", "SIZE");
    private static final Set<String> QUESTIONS = Set.of("taskOf", "nameOf", "rings", "waits", "of", "ahead", "shut", "ends",
            "choose", "handsFor", "most", "lives", "best", "whom", "as", "judge", "count", "status");
    private static final Pattern CALL = Pattern.compile("(?:(\\d+) x )?(\\w+)\\((.*?)\\)(?: = (.+))?");
    private static final Pattern TEXT = Pattern.compile("(feed|read) \"(.*)\"(?: = (.+))?");
    private static final Pattern YEAR = Pattern.compile("year (\\d+)");
    private static final Map<String, Method> METHODS = new HashMap<>();

    static {
        for (Method m : NameBook.class.getDeclaredMethods()) {
            if (Modifier.isPublic(m.getModifiers())) {
                METHODS.put(m.getName(), m);
            }
        }
    }

    private static final class Call {
        final String act;
        final int[] args;

        Call(String act, int... args) {
            this.act = act;
            this.args = args;
        }
    }

    /** A book that is asked no more often than the document allows. */
    private static final class Book {
        private final NameBook book = new NameBook();
        private int calls;

        int ask(String act, int... args) {
            calls++;
            if (calls > MOST_CALLS) {
                throw new IllegalStateException("the test makes more than 512 calls on one object");
            }
            Object[] boxed = Arrays.stream(args).boxed().toArray();
            try {
                return (Integer) METHODS.get(act).invoke(book, boxed);
            } catch (InvocationTargetException | IllegalAccessException e) {
                throw new IllegalStateException(act + Arrays.toString(args) + " throws", e);
            }
        }
    }

    private final String sentence;
    private final Book book = new Book();
    private final List<Call> made = new ArrayList<>();
    private int wrong;

    private Script(String sentence) {
        this.sentence = sentence;
    }

    /** How many lines did not come out as due. */
    static int run(String sentence, String lines) {
        Script script = new Script(sentence);
        for (String line : lines.split("\n")) {
            String plain = line.trim();
            if (!plain.isEmpty() && !plain.startsWith("--")) {
                script.line(plain);
            }
        }
        return script.wrong;
    }

    private void wrong(String line, String why) {
        wrong++;
        System.out.println(sentence + ": " + line + ": " + why);
    }

    private void line(String line) {
        Matcher m = CALL.matcher(line);
        if (m.matches()) {
            int times = m.group(1) == null ? 1 : Integer.parseInt(m.group(1));
            for (int i = 0; i < times; i++) {
                call(line, new Call(m.group(2), numbers(m.group(3))), m.group(4));
            }
            return;
        }
        m = TEXT.matcher(line);
        if (m.matches()) {
            feed(line, m.group(2));
            if (m.group(1).equals("read")) {
                call(line, new Call("text"), m.group(3));
            }
            return;
        }
        m = YEAR.matcher(line);
        if (!m.matches()) {
            throw new IllegalStateException("no line of a script: " + line);
        }
        letYearsGo(line, Integer.parseInt(m.group(1)));
    }

    private static int[] numbers(String list) {
        if (list.isEmpty()) {
            return new int[0];
        }
        return Arrays.stream(list.split(", ")).mapToInt(Script::number).toArray();
    }

    private static int number(String told) {
        switch (told) {
            case "MAX": return Integer.MAX_VALUE;
            case "MIN": return Integer.MIN_VALUE;
            default: return Integer.decode(told);
        }
    }

    private static int answer(String told) {
        if (FINDINGS.contains(told)) {
            return LOW - FINDINGS.indexOf(told);
        }
        return told.startsWith("fault ") ? -1 - number(told.substring(6)) : number(told);
    }

    private void feed(String line, String text) {
        int at = 0;
        while (at < text.length()) {
            int n = Math.min(4, text.length() - at);
            int bytes = 0;
            for (int i = 0; i < n; i++) {
                bytes = bytes << 8 | text.charAt(at++);
            }
            call(line, new Call("feed", bytes, n), null);
        }
    }

    private void letYearsGo(String line, int year) {
        int now = book.ask("count", 0);
        while (now < year) {
            int n = Math.min(60, year - now);
            call(line, new Call("years", n), null);
            now += n;
        }
    }

    private static boolean isFinding(Call call, int answer) {
        boolean isZ = call.act.equals("seed") || call.act.equals("count") && call.args[0] == 7;
        return answer <= LOW && !isZ;
    }

    private void call(String line, Call call, String told) {
        int got = book.ask(call.act, call.args);
        if (told == null) {
            if (isFinding(call, got)) {
                wrong(line, "answered the finding " + got + ", but only prepares");
            }
            made.add(call);
            return;
        }
        int want = told.equals("?") ? Math.max(got, LOW + 1) : answer(told);
        if (got != want) {
            wrong(line, "answered " + got);
        }
        if (isFinding(call, want)) {
            sameAs(line, call, null, LOW - want);
        } else if (QUESTIONS.contains(call.act)) {
            sameAs(line, call, null, -1);
        } else if (call.act.equals("text") && want < 0) {
            sameAs(line, call, new Call("wipe"), -1);
        }
        made.add(call);
    }

    private Book twin(Call last) {
        Book twin = new Book();
        for (Call c : made) {
            twin.ask(c.act, c.args);
        }
        if (last != null) {
            twin.ask(last.act, last.args);
        }
        return twin;
    }

    /** Behind either call all is the same, but that the first told a finding (-1: none). */
    private void sameAs(String line, Call call, Call instead, int finding) {
        for (Function<Book, String> look : looks()) {
            String got = look.apply(twin(call));
            String want = look.apply(twin(instead));
            if (!got.equals(want)) {
                wrong(line, "has changed more than it may: " + got + " instead of " + want);
            }
        }
        Book with = twin(call);
        Book without = twin(instead);
        for (int which = -1; which <= 6; which++) {
            int more = finding >= 0 && (which == -1 || which == finding) ? 1 : 0;
            if (with.ask("status", which) != without.ask("status", which) + more) {
                wrong(line, "status(" + which + ") is not " + more + " more");
            }
        }
    }

    private static List<Function<Book, String>> looks() {
        List<Function<Book, String>> looks = new ArrayList<>();
        looks.add(Script::lookAtBook);
        looks.add(Script::lookAtImage);
        looks.add(Script::lookAtTape);
        for (int s = 0; s < 4; s++) {
            int sheet = s;
            looks.add(b -> lookAtSheet(b, sheet));
        }
        return looks;
    }

    private static String lookAtBook(Book b) {
        StringBuilder seen = new StringBuilder("book");
        row(seen, b, "count", -1, 8);
        for (int name = 0; name < 8; name++) {
            row(seen, b, "nameOf", name, 7);
        }
        for (int t = b.ask("count", 1) - 1; t >= 0; t--) {
            row(seen, b, "taskOf", t, 5);
        }
        for (int p = b.ask("count", 3) - 1; p >= 0; p--) {
            row(seen, b, "of", p, 4);
        }
        for (int spot = 0; spot < 10; spot++) {
            seen.append(' ').append(b.ask("as", spot, 0));
        }
        return seen.append(' ').append(b.ask("rings")).toString();
    }

    private static void row(StringBuilder seen, Book b, String act, int of, int end) {
        for (int what = 0; what < end; what++) {
            seen.append(' ').append(of < 0 ? b.ask(act, what) : b.ask(act, of, what));
        }
    }

    private static String lookAtImage(Book b) {
        return "image " + b.ask("undo") + lookAtBook(b);
    }

    private static String lookAtTape(Book b) {
        return "tape " + b.ask("count", 6) + " " + b.ask("text") + lookAtBook(b);
    }

    /** Its bits, how many numbers, and each that is a name or -1; the others are told as ?. */
    private static String lookAtSheet(Book b, int s) {
        if (b.ask("copy", s, 0, s, 0, 0) != 0) {
            return "no sheet " + s;
        }
        int other = (s + 1) % 4;
        int bits = 8;
        b.ask("sheet", other, bits, 1);
        while (b.ask("copy", s, 0, other, 0, 0) != 0 && bits < 32) {
            bits *= 2;
            b.ask("sheet", other, bits, 1);
        }
        int size = 40;
        while (b.ask("copy", s, size, s, size, 0) != 0) {
            size--;
        }
        StringBuilder seen = new StringBuilder("sheet " + s + " bits " + bits + " numbers " + size);
        prepareReader(b);
        for (int i = 0; i < size; i++) {
            b.ask("copy", s, i, other, 0, 1);
            boolean isName = b.ask("load", other) == 1;
            seen.append(' ').append(isName ? String.valueOf(b.ask("of", 0, 0)) : "?");
        }
        return seen.toString();
    }

    /** Person 0 is to take as names what a sheet holds. */
    private static void prepareReader(Book b) {
        if (b.ask("count", 3) == 0) {
            b.ask("person", 3);
        }
        for (int p = b.ask("count", 3) - 1; p >= 0; p--) {
            b.ask("take", p, -1);
        }
        b.ask("change", 0, 1, 0);
    }
}
