import java.nio.charset.StandardCharsets;
import java.util.ArrayList;
import java.util.List;
import java.util.function.ToIntFunction;

/** The document once more, written as plainly as can be and apart from NameBook: ModelTest sets both side by side. */
final class Model {
    static final int BEYOND = -1000001, FULL = -1000002, KIND = -1000003, NONE = -1000004;
    static final int STATE = -1000005, MISSING = -1000006, SIZE = -1000007;

    static class Task {
        int kind, name, hours, needs = -1;
    }

    static class Person {
        int name = -1, age, hands = 3, helps = -1;
    }

    static class World {
        int year, z = 1;
        int[] worth = {10, 10, 10, 10, 10, 10, 10, 10};
        int[] lives = new int[8];
        List<Task> tasks = new ArrayList<>();
        List<Person> persons = new ArrayList<>();
        int[] spots = {-1, -1, -1, -1, -1, -1, -1, -1, -1, -1};

        World twin() {
            World w = new World();
            w.year = year;
            w.z = z;
            w.worth = worth.clone();
            w.lives = lives.clone();
            w.spots = spots.clone();
            for (Task t : tasks) {
                Task u = w.addTask(t.kind, t.name, t.hours);
                u.needs = t.needs;
            }
            for (Person p : persons) {
                Person q = new Person();
                q.name = p.name;
                q.age = p.age;
                q.hands = p.hands;
                q.helps = p.helps;
                w.persons.add(q);
            }
            return w;
        }

        Task addTask(int kind, int name, int hours) {
            Task t = new Task();
            t.kind = kind;
            t.name = name;
            t.hours = hours;
            tasks.add(t);
            return t;
        }

        boolean open(int name) {
            return tasks.stream().anyMatch(t -> t.name == name && t.hours > 0);
        }

        int bearer(int name) {
            for (int i = 0; i < persons.size(); i++) {
                if (persons.get(i).name == name) {
                    return i;
                }
            }
            return -1;
        }

        int atHand(int name) {
            for (int i = 0; i < tasks.size(); i++) {
                Task t = tasks.get(i);
                if (t.name == name && t.hours > 0 && (t.needs == -1 || tasks.get(t.needs).hours == 0)) {
                    return i;
                }
            }
            return -1;
        }

        int work(Task t, int hands) {
            return workAs(t, t.kind, hands);
        }

        int workAs(Task t, int kind, int hands) {
            switch (kind) {
                case 0: return hands;
                case 1: return year % 2 == 1 ? workAs(t, 0, hands) / 2 : workAs(t, 0, hands);
                case 2: return workAs(t, 0, hands);
                case 3: return t.needs != -1 && bearer(tasks.get(t.needs).name) == -1 ? 0 : workAs(t, 2, hands);
                case 4: return 2 * workAs(t, 0, hands);
                case 5: return workAs(t, 4, hands) + 1;
                case 6: return Math.max(0, workAs(t, 1, hands) - 1);
                default: throw new IllegalStateException();
            }
        }

        int grows(Task t) {
            if (t.hours == 0) {
                return 0;
            }
            switch (t.kind) {
                case 2: return t.hours / 10;
                case 3: return t.hours / 10 + 1;
                case 6: return year % 2 == 0 ? 1 : 0;
                default: return 0;
            }
        }

        void doWork(int name, int hands) {
            int at = atHand(name);
            if (at >= 0) {
                Task t = tasks.get(at);
                t.hours = Math.max(0, t.hours - work(t, hands));
            }
        }

        void oneYear() {
            for (Person p : persons) {
                if (p.age >= 7 && p.name >= 0) {
                    doWork(p.name, p.hands);
                }
            }
            for (Person p : persons) {
                boolean idle = p.name == -1 || !open(p.name) || atHand(p.name) == -1;
                if (p.age >= 7 && idle && p.helps >= 0 && persons.get(p.helps).name >= 0) {
                    doWork(persons.get(p.helps).name, p.hands / 2);
                }
            }
            for (Task t : tasks) {
                t.hours = Math.min(999, t.hours + grows(t));
            }
            for (Person p : persons) {
                p.age = Math.min(40, p.age + 1);
            }
            for (Person p : persons) {
                if (p.age == 40 && p.name >= 0) {
                    int name = p.name;
                    p.name = -1;
                    lives[name]++;
                    if (open(name) && tasks.size() < 20) {
                        addTask(0, name, 5);
                    }
                }
            }
            year++;
        }

        World after(int n) {
            World w = twin();
            for (int i = 0; i < n; i++) {
                w.oneYear();
            }
            return w;
        }

        int hoursOfAll() {
            return tasks.stream().mapToInt(t -> t.hours).sum();
        }

        int notEnded() {
            return (int) tasks.stream().filter(t -> t.hours > 0).count();
        }

        int endedWorth() {
            int sum = 0;
            for (int n = 0; n < 8; n++) {
                final int name = n;
                if (!open(n) && tasks.stream().anyMatch(t -> t.name == name)) {
                    sum += worth[n];
                }
            }
            return sum;
        }

        boolean waitsFor(int task, int other) {
            if (tasks.get(task).hours == 0 || tasks.get(other).hours == 0) {
                return false;
            }
            int at = task;
            for (int i = 0; i < 50; i++) {
                at = tasks.get(at).needs;
                if (at == -1 || tasks.get(at).hours == 0) {
                    return false;
                }
                if (at == other) {
                    return true;
                }
            }
            return false;
        }

        boolean mayTake(int person, int name) {
            if (name == -1) {
                return true;
            }
            return persons.get(person).age < 40 && (bearer(name) == -1 || bearer(name) == person);
        }
    }

    private World w = new World();
    private World kept;
    private StringBuilder tape = new StringBuilder();
    private final int[][] sheets = new int[4][];
    private final int[] bits = new int[4];
    private final int[] told = new int[7];

    private int f(int finding) {
        told[BEYOND - finding]++;
        return finding;
    }

    private boolean in(int v, int a, int b) {
        return a <= v && v <= b;
    }

    private boolean t(int task) {
        return in(task, 0, w.tasks.size() - 1);
    }

    private boolean p(int person) {
        return in(person, 0, w.persons.size() - 1);
    }

    /** One call of the face, by its name. */
    int call(String act, int[] a) {
        switch (act) {
            case "worth": {
                if (!in(a[0], 0, 7) || !in(a[1], 0, 99)) return f(BEYOND);
                int was = w.worth[a[0]];
                w.worth[a[0]] = a[1];
                return was;
            }
            case "task":
                if (!in(a[0], 0, 6) || !in(a[1], 0, 7) || !in(a[2], 1, 999)) return f(BEYOND);
                if (w.tasks.size() == 20) return f(FULL);
                w.addTask(a[0], a[1], a[2]);
                return w.tasks.size() - 1;
            case "taskOf": {
                if (!t(a[0]) || !in(a[1], 0, 5)) return f(BEYOND);
                Task t = w.tasks.get(a[0]);
                return new int[] {t.kind, t.name, t.hours, t.needs, w.grows(t), w.waitsFor(a[0], a[0]) ? 1 : 0}[a[1]];
            }
            case "turn": {
                if (!t(a[0]) || !in(a[1], 0, 6)) return f(BEYOND);
                int was = w.tasks.get(a[0]).kind;
                w.tasks.get(a[0]).kind = a[1];
                return was;
            }
            case "needs": {
                if (!t(a[0]) || !in(a[1], -1, w.tasks.size() - 1) || a[0] == a[1]) return f(BEYOND);
                int was = w.tasks.get(a[0]).needs;
                w.tasks.get(a[0]).needs = a[1];
                return was;
            }
            case "strike": {
                if (!t(a[0])) return f(BEYOND);
                int was = w.tasks.get(a[0]).hours;
                w.tasks.get(a[0]).hours = 0;
                return was;
            }
            case "nameOf": {
                if (!in(a[0], 0, 7) || !in(a[1], 0, 6)) return f(BEYOND);
                int n = a[0];
                int tasks = (int) w.tasks.stream().filter(t -> t.name == n).count();
                int hours = w.tasks.stream().filter(t -> t.name == n).mapToInt(t -> t.hours).sum();
                return new int[] {w.worth[n], w.open(n) ? 1 : 0, w.bearer(n), tasks, hours, w.atHand(n), w.lives[n]}[a[1]];
            }
            case "rings": {
                int set = 0;
                for (int i = 0; i < w.tasks.size(); i++) if (w.waitsFor(i, i)) set |= 1 << i;
                return set;
            }
            case "waits": {
                if (!t(a[0])) return f(BEYOND);
                int set = 0;
                for (int i = 0; i < w.tasks.size(); i++) if (w.waitsFor(i, a[0])) set |= 1 << i;
                return set;
            }
            default:
                return callPersons(act, a);
        }
    }

    private int callPersons(String act, int[] a) {
        switch (act) {
            case "person": {
                if (!in(a[0], 1, 9)) return f(BEYOND);
                if (w.persons.size() == 8) return f(FULL);
                Person p = new Person();
                p.hands = a[0];
                w.persons.add(p);
                return w.persons.size() - 1;
            }
            case "of": {
                if (!p(a[0]) || !in(a[1], 0, 3)) return f(BEYOND);
                Person p = w.persons.get(a[0]);
                return new int[] {p.name, p.age, p.hands, p.helps}[a[1]];
            }
            case "change": {
                if (!p(a[0]) || !in(a[1], 1, 2)) return f(BEYOND);
                if (a[1] == 1 ? !in(a[2], 0, 39) : !in(a[2], 1, 9)) return f(BEYOND);
                Person p = w.persons.get(a[0]);
                int was = a[1] == 1 ? p.age : p.hands;
                if (a[1] == 1) p.age = a[2]; else p.hands = a[2];
                return was;
            }
            case "helps": {
                if (!p(a[0]) || !in(a[1], -1, w.persons.size() - 1) || a[0] == a[1]) return f(BEYOND);
                int was = w.persons.get(a[0]).helps;
                w.persons.get(a[0]).helps = a[1];
                return was;
            }
            case "take": {
                if (!p(a[0]) || !in(a[1], -1, 7)) return f(BEYOND);
                if (!w.mayTake(a[0], a[1])) return f(STATE);
                int was = w.persons.get(a[0]).name;
                w.persons.get(a[0]).name = a[1];
                return was;
            }
            case "exchange": {
                if (!p(a[0]) || !p(a[1]) || a[0] == a[1]) return f(BEYOND);
                Person one = w.persons.get(a[0]), two = w.persons.get(a[1]);
                if (one.age == 40 || two.age == 40) return f(STATE);
                int name = one.name;
                one.name = two.name;
                two.name = name;
                return 1;
            }
            case "born":
                if (!in(a[0], 1, 8)) return f(BEYOND);
                for (int i = 0; i < a[0] && w.persons.size() < 8; i++) {
                    w.z = w.z * 1103515245 + 12345;
                    Person p = new Person();
                    p.hands = (w.z >>> 8) % 9 + 1;
                    w.persons.add(p);
                }
                return w.persons.size();
            default:
                return callYears(act, a);
        }
    }

    private int callYears(String act, int[] a) {
        switch (act) {
            case "years": {
                if (!in(a[0], 1, 60)) return f(BEYOND);
                if (w.year + a[0] > 999) return f(STATE);
                int ended = w.tasks.size() - w.notEnded();
                w = w.after(a[0]);
                return w.tasks.size() - w.notEnded() - ended;
            }
            case "ahead": {
                if (!in(a[0], 0, 100) || !in(a[1], 0, 4)) return f(BEYOND);
                if (w.year + a[0] > 999) return f(STATE);
                World v = w.after(a[0]);
                int open = 0, lives = 0;
                for (int n = 0; n < 8; n++) {
                    open |= v.open(n) ? 1 << n : 0;
                    lives += v.lives[n];
                }
                return new int[] {v.notEnded(), v.hoursOfAll(), open, v.endedWorth(), lives}[a[1]];
            }
            case "shut":
                if (!in(a[0], 0, 7)) return f(BEYOND);
                if (w.year > 899) return f(STATE);
                for (int i = 0; i <= 100; i++) if (!w.after(i).open(a[0])) return i;
                return f(NONE);
            case "ends":
                if (!t(a[0])) return f(BEYOND);
                if (w.year > 899) return f(STATE);
                for (int i = 0; i <= 100; i++) if (w.after(i).tasks.get(a[0]).hours == 0) return i;
                return f(NONE);
            default:
                return callChoosing(act, a);
        }
    }

    private boolean shutInTime(World v, int name, int years) {
        for (int i = 0; i <= years; i++) {
            if (!v.open(name)) return true;
            v.oneYear();
        }
        return false;
    }

    private int callChoosing(String act, int[] a) {
        switch (act) {
            case "choose": {
                if (!p(a[0])) return f(BEYOND);
                Person p = w.persons.get(a[0]);
                if (p.name != -1 || p.age == 40 || w.year > 959) return f(STATE);
                int best = -1;
                for (int n = 0; n < 8; n++) {
                    if (!w.open(n) || w.bearer(n) != -1) continue;
                    World v = w.twin();
                    v.persons.get(a[0]).name = n;
                    if (shutInTime(v, n, 40 - p.age) && (best == -1 || w.worth[n] > w.worth[best])) best = n;
                }
                return best == -1 ? f(NONE) : best;
            }
            case "handsFor": {
                if (!p(a[0])) return f(BEYOND);
                Person p = w.persons.get(a[0]);
                if (p.name == -1 || w.year > 959) return f(STATE);
                for (int h = 1; h <= 9; h++) {
                    World v = w.twin();
                    v.persons.get(a[0]).hands = h;
                    if (shutInTime(v, p.name, 40 - p.age)) return h;
                }
                return f(NONE);
            }
            case "most":
            case "give": {
                if (!in(a[0], 1, 40)) return f(BEYOND);
                if (w.year + a[0] > 999) return f(STATE);
                List<Integer> free = new ArrayList<>();
                for (int i = 0; i < w.persons.size(); i++) {
                    if (w.persons.get(i).name == -1 && w.persons.get(i).age < 40) free.add(i);
                }
                if (free.size() > 4) return f(SIZE);
                List<World> all = new ArrayList<>();
                givings(w, free, 0, all);
                World best = null;
                int most = -1;
                for (World v : all) {
                    int e = v.after(a[0]).endedWorth();
                    if (e > most) {
                        most = e;
                        best = v;
                    }
                }
                if (act.equals("most")) return most;
                w = best;
                return (int) free.stream().filter(i -> w.persons.get(i).name != -1).count();
            }
            case "lives": {
                if (!in(a[0], 0, 7) || !in(a[1], 1, 9)) return f(BEYOND);
                if (!w.open(a[0])) return f(STATE);
                World v = w.twin();
                for (int life = 1; life <= 9; life++) {
                    v.persons.clear();
                    Person p = new Person();
                    p.hands = a[1];
                    p.name = a[0];
                    v.persons.add(p);
                    for (int i = 0; i < 40; i++) {
                        v.oneYear();
                        if (!v.open(a[0])) return life;
                    }
                }
                return f(NONE);
            }
            case "best":
                if (!in(a[0], 1, 60)) return f(BEYOND);
                if (w.year + a[0] > 999) return f(STATE);
                if (w.notEnded() == 0) return f(NONE);
                return least(0, w.tasks.size(), i -> {
                    World v = w.twin();
                    if (v.tasks.get(i).hours == 0) return Integer.MAX_VALUE;
                    v.tasks.get(i).hours = 0;
                    return v.after(a[0]).hoursOfAll();
                });
            case "whom":
                if (!p(a[0]) || !in(a[1], 1, 60)) return f(BEYOND);
                if (w.year + a[1] > 999) return f(STATE);
                return least(-1, w.persons.size(), i -> {
                    if (i == a[0]) return Integer.MAX_VALUE;
                    World v = w.twin();
                    v.persons.get(a[0]).helps = i;
                    return v.after(a[1]).hoursOfAll();
                });
            case "seed": {
                int was = w.z;
                w.z = a[0];
                return was;
            }
            default:
                return callSheets(act, a);
        }
    }

    private static int least(int from, int to, ToIntFunction<Integer> cost) {
        int best = from;
        for (int i = from; i < to; i++) {
            if (cost.applyAsInt(i) < cost.applyAsInt(best)) best = i;
        }
        return best;
    }

    private static void givings(World v, List<Integer> free, int i, List<World> all) {
        if (i == free.size()) {
            all.add(v);
            return;
        }
        givings(v, free, i + 1, all);
        for (int n = 0; n < 8; n++) {
            if (v.open(n) && v.bearer(n) == -1) {
                World u = v.twin();
                u.persons.get(free.get(i)).name = n;
                givings(u, free, i + 1, all);
            }
        }
    }

    private int callSheets(String act, int[] a) {
        switch (act) {
            case "feed":
                if (!in(a[1], 1, 4)) return f(BEYOND);
                if (tape.length() + a[1] > 120) return f(FULL);
                for (int i = a[1] - 1; i >= 0; i--) tape.append((char) (a[0] >> 8 * i & 0xff));
                return tape.length();
            case "wipe": {
                int was = tape.length();
                tape.setLength(0);
                return was;
            }
            case "text": {
                World v = w.twin();
                int answer = new Text(tape.toString(), v).read();
                tape.setLength(0);
                if (answer >= 0) w = v;
                return answer;
            }
            case "hold":
                if (!in(a[0], 0, 9) || !in(a[1], -1, w.tasks.size() - 1)) return f(BEYOND);
                w.spots[a[0]] = a[1];
                return 1;
            case "as": {
                if (!in(a[0], 0, 9) || !in(a[1], 0, 6)) return f(BEYOND);
                if (w.spots[a[0]] == -1) return f(MISSING);
                int[][] over = {{0}, {1, 0}, {2, 0}, {3, 2, 0}, {4, 0}, {5, 4, 0}, {6, 1, 0}};
                for (int k : over[w.tasks.get(w.spots[a[0]]).kind]) if (k == a[1]) return w.spots[a[0]];
                return f(KIND);
            }
            case "sheet":
                if (!in(a[0], 0, 3) || a[1] != 0 && a[1] != 8 && a[1] != 16 && a[1] != 32) return f(BEYOND);
                if (a[2] < 0) return f(SIZE);
                if (a[2] > 40) return f(BEYOND);
                bits[a[0]] = a[1];
                sheets[a[0]] = a[1] == 0 ? null : new int[a[2]];
                return a[1] == 0 ? 0 : a[2];
            case "write":
                if (!in(a[0], 0, 3)) return f(BEYOND);
                if (sheets[a[0]] == null) return f(MISSING);
                if (!in(a[1], 0, sheets[a[0]].length - 1)) return f(BEYOND);
                sheets[a[0]][a[1]] = a[2] << 32 - bits[a[0]] >> 32 - bits[a[0]];
                return 1;
            case "copy": {
                if (!in(a[0], 0, 3) || !in(a[2], 0, 3)) return f(BEYOND);
                if (sheets[a[0]] == null || sheets[a[2]] == null) return f(MISSING);
                if (bits[a[0]] != bits[a[2]]) return f(KIND);
                if (a[1] < 0 || a[3] < 0 || a[4] < 0) return f(BEYOND);
                if ((long) a[1] + a[4] > sheets[a[0]].length || (long) a[3] + a[4] > sheets[a[2]].length) return f(BEYOND);
                int[] old = sheets[a[0]].clone();
                for (int i = 0; i < a[4]; i++) sheets[a[2]][a[3] + i] = old[a[1] + i];
                return a[4];
            }
            case "load": {
                if (!in(a[0], 0, 3)) return f(BEYOND);
                if (sheets[a[0]] == null) return f(MISSING);
                int came = 0;
                for (int v : sheets[a[0]]) {
                    if (!in(v, -1, 7) || !p(came) || !w.mayTake(came, v)) break;
                    w.persons.get(came++).name = v;
                }
                return came;
            }
            case "judge": {
                if (!in(a[0], 0, 3)) return f(BEYOND);
                if (sheets[a[0]] == null) return f(MISSING);
                if (!in(a[1], 0, 60)) return f(BEYOND);
                if (w.year + a[1] > 999) return f(STATE);
                World v = w.after(a[1]);
                int right = 0;
                for (int i = 0; i < sheets[a[0]].length; i++) {
                    if (i >= v.tasks.size() || v.tasks.get(i).hours != sheets[a[0]][i]) break;
                    right++;
                }
                return right == sheets[a[0]].length && right == v.tasks.size() ? 0 : 1 + right;
            }
            default:
                return callImages(act, a);
        }
    }

    private int callImages(String act, int[] a) {
        switch (act) {
            case "image":
                kept = w.twin();
                return 1;
            case "undo":
                if (kept == null) return f(NONE);
                w = kept.twin();
                return w.year;
            case "tear": {
                int was = kept == null ? 0 : 1;
                kept = null;
                return was;
            }
            case "count":
                if (!in(a[0], 0, 7)) return f(BEYOND);
                return new int[] {w.year, w.tasks.size(), w.notEnded(), w.persons.size(), w.endedWorth(),
                        w.hoursOfAll(), tape.length(), w.z}[a[0]];
            case "status": {
                if (!in(a[0], -1, 6)) return f(BEYOND);
                int all = 0;
                for (int n : told) all += n;
                return a[0] == -1 ? all : told[a[0]];
            }
            default:
                throw new IllegalStateException(act);
        }
    }

    /** Reads a text by regions that regular expressions find. */
    static final class Text {
        private final String s;
        private final World v;
        private int at;

        Text(String s, World v) {
            this.s = new String(s.getBytes(StandardCharsets.ISO_8859_1), StandardCharsets.ISO_8859_1);
            this.v = v;
        }

        private static final class Fault extends RuntimeException {
            private static final long serialVersionUID = 1;
            final int place;

            Fault(int place) {
                super("fault");
                this.place = place;
            }
        }

        int read() {
            try {
                int items = 0;
                do {
                    item();
                    items++;
                } while (eat(";"));
                if (!peek().isEmpty()) throw new Fault(place());
                return items;
            } catch (Fault fault) {
                return -1 - fault.place;
            }
        }

        private int place() {
            int i = at;
            while (i < s.length() && s.charAt(i) == ' ') i++;
            return i;
        }

        private String peek() {
            String rest = s.substring(place());
            String word = rest.replaceFirst("(?s)^([a-z]+|[0-9]+).*$", "$1");
            return rest.matches("(?s)^[a-z0-9].*") ? word : rest.isEmpty() ? "" : rest.substring(0, 1);
        }

        private boolean eat(String token) {
            if (!peek().equals(token)) return false;
            at = place() + token.length();
            return true;
        }

        private void must(String token) {
            if (!eat(token)) throw new Fault(place());
        }

        private int number(int least, int most) {
            String token = peek();
            if (!token.matches("[0-9]+")) throw new Fault(place());
            java.math.BigInteger n = new java.math.BigInteger(token);
            if (n.bitLength() > 20 || n.intValue() < least || n.intValue() > most) throw new Fault(place());
            at = place() + token.length();
            return n.intValue();
        }

        private void item() {
            int start = place();
            if (eat("name")) {
                int n = number(0, 7);
                must("worth");
                v.worth[n] = number(0, 99);
                return;
            }
            if (eat("person")) {
                if (v.persons.size() == 8) throw new Fault(start);
                Person p = new Person();
                if (eat("hands")) p.hands = number(1, 9);
                if (eat("age")) p.age = number(0, 39);
                if (eat("bears")) {
                    int where = place();
                    int n = number(0, 7);
                    if (v.bearer(n) != -1) throw new Fault(where);
                    p.name = n;
                }
                v.persons.add(p);
                return;
            }
            int kind = List.of("task", "wall", "debt", "feud", "letter", "promise", "tower").indexOf(peek());
            if (kind < 0 || v.tasks.size() == 20) throw new Fault(start);
            at = start + peek().length();
            int n = number(0, 7);
            must("hours");
            int h = number(1, 999);
            int needs = -1;
            if (eat("needs")) needs = number(0, v.tasks.size() - 1);
            v.addTask(kind, n, h).needs = needs;
        }
    }
}
