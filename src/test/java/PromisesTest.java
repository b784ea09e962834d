import java.util.function.IntSupplier;

/** Each promise of the document by its number: ordinary answers, the edges that it names, its findings in their order. */
public final class PromisesTest {
    private static final int BEYOND = -1000001;
    private static final int FULL = -1000002;
    private static final int KIND = -1000003;
    private static final int NONE = -1000004;
    private static final int STATE = -1000005;
    private static final int MISSING = -1000006;
    private static final int SIZE = -1000007;
    private static final int FAR = Integer.MAX_VALUE;
    private static final int DEEP = Integer.MIN_VALUE;

    private static int wrong;
    private static int promise;
    private static int row;

    public static void main(String[] args) {
        namesAndTasks();
        persons();
        years();
        choosing();
        texts();
        spotsAndSheets();
        images();
        System.out.println(wrong == 0 ? "all promises hold" : wrong + " answers are not as due");
        if (wrong != 0) {
            System.exit(1);
        }
    }

    private static void promise(int number) {
        promise = number;
        row = 0;
    }

    private static void due(int got, int want) {
        row++;
        if (got != want) {
            wrong++;
            System.out.println("promise " + promise + ", row " + row + ": answered " + got + ", due is " + want);
        }
    }

    /** The finding is due; it is counted once, and nothing else changes. */
    private static void refused(CountedBook x, int finding, IntSupplier act) {
        String before = look(x);
        int all = x.twin().status(-1);
        int same = x.twin().status(BEYOND - finding);
        due(act.getAsInt(), finding);
        if (x.twin().status(-1) != all + 1 || x.twin().status(BEYOND - finding) != same + 1) {
            wrong++;
            System.out.println("promise " + promise + ", row " + row + ": the finding is not counted once");
        }
        if (!look(x).equals(before)) {
            wrong++;
            System.out.println("promise " + promise + ", row " + row + ": more than status() has changed");
        }
    }

    /** All that can be seen of a book without a finding; a twin is looked at, as the book has only so many calls. */
    private static String look(CountedBook book) {
        CountedBook x = book.twin();
        StringBuilder s = new StringBuilder();
        for (int what = 0; what <= 7; what++) {
            s.append(x.count(what)).append(' ');
        }
        for (int name = 0; name < 8; name++) {
            for (int what = 0; what <= 6; what++) {
                s.append(x.nameOf(name, what)).append(' ');
            }
        }
        for (int t = x.count(1) - 1; t >= 0; t--) {
            for (int what = 0; what <= 5; what++) {
                s.append(x.taskOf(t, what)).append(' ');
            }
        }
        for (int p = x.count(3) - 1; p >= 0; p--) {
            for (int what = 0; what <= 3; what++) {
                s.append(x.of(p, what)).append(' ');
            }
        }
        return s.toString();
    }

    private static int feed(CountedBook x, String text) {
        int had = x.count(6);
        for (int i = 0; i < text.length(); i += 4) {
            int n = Math.min(4, text.length() - i);
            int bytes = 0;
            for (int k = 0; k < n; k++) {
                bytes = bytes << 8 | text.charAt(i + k);
            }
            had = x.feed(bytes, n);
        }
        return had;
    }

    private static int read(CountedBook x, String text) {
        feed(x, text);
        return x.text();
    }

    private static CountedBook told(String... texts) {
        CountedBook x = new CountedBook();
        for (String text : texts) {
            if (read(x, text) < 0) {
                wrong++;
                System.out.println("promise " + promise + ": the text " + text + " is not read");
            }
        }
        return x;
    }

    private static CountedBook atYear(int year) {
        CountedBook x = new CountedBook();
        letYearsGo(x, year);
        return x;
    }

    private static void letYearsGo(CountedBook x, int year) {
        while (x.count(0) < year) {
            x.years(Math.min(60, year - x.count(0)));
        }
    }

    /** Goes on to age 40 with the person. */
    private static void makeOld(CountedBook x, int person) {
        x.change(person, 1, 39);
        x.years(1);
    }

    private static void namesAndTasks() {
        promise(1);
        CountedBook x = new CountedBook();
        int[] counts = {0, 0, 0, 0, 0, 0, 0, 1};
        for (int what = 0; what < counts.length; what++) {
            due(x.count(what), counts[what]);
        }
        int[] name = {10, 0, -1, 0, 0, -1, 0};
        for (int what = 0; what < name.length; what++) {
            due(x.nameOf(7, what), name[what]);
        }
        due(x.status(-1), 0);
        due(x.undo(), NONE);
        due(x.as(0, 0), MISSING);
        due(x.as(9, 0), MISSING);
        due(x.write(0, 0, 0), MISSING);
        due(x.write(3, 0, 0), MISSING);
        due(x.text(), -1);

        promise(2);
        CountedBook w = new CountedBook();
        due(w.worth(0, 99), 10);
        due(w.worth(0, 0), 99);
        due(w.worth(7, 5), 10);
        due(w.nameOf(0, 0), 0);
        refused(w, BEYOND, () -> w.worth(-1, 5));
        refused(w, BEYOND, () -> w.worth(8, 5));
        refused(w, BEYOND, () -> w.worth(0, -1));
        refused(w, BEYOND, () -> w.worth(0, 100));

        promise(3);
        CountedBook t = new CountedBook();
        due(t.task(6, 7, 999), 0);
        due(t.task(0, 0, 1), 1);
        refused(t, BEYOND, () -> t.task(-1, 0, 1));
        refused(t, BEYOND, () -> t.task(7, 0, 1));
        refused(t, BEYOND, () -> t.task(0, -1, 1));
        refused(t, BEYOND, () -> t.task(0, 8, 1));
        refused(t, BEYOND, () -> t.task(0, 0, 0));
        refused(t, BEYOND, () -> t.task(0, 0, 1000));
        for (int i = 2; i < 20; i++) {
            due(t.task(0, 0, 1), i);
        }
        refused(t, FULL, () -> t.task(0, 0, 1));
        refused(t, BEYOND, () -> t.task(0, 0, 0));

        promise(4);
        CountedBook o = told("debt 3 hours 47;feud 2 hours 47 needs 0;tower 1 hours 5;wall 0 hours 9;debt 0 hours 9");
        int[] first = {2, 3, 47, -1, 4, 0};
        int[] second = {3, 2, 47, 0, 5, 0};
        for (int what = 0; what <= 5; what++) {
            due(o.taskOf(0, what), first[what]);
            due(o.taskOf(1, what), second[what]);
        }
        due(o.taskOf(2, 4), 1);
        due(o.taskOf(3, 4), 0);
        due(o.taskOf(4, 4), 0);
        o.years(1);
        due(o.taskOf(2, 4), 0);
        o.task(3, 0, 999);
        due(o.taskOf(5, 4), 100);
        o.strike(5);
        due(o.taskOf(5, 4), 0);
        o.needs(0, 1);
        due(o.taskOf(0, 5), 1);
        due(o.taskOf(3, 5), 0);
        refused(o, BEYOND, () -> o.taskOf(-1, 0));
        refused(o, BEYOND, () -> o.taskOf(6, 0));
        refused(o, BEYOND, () -> o.taskOf(0, -1));
        refused(o, BEYOND, () -> o.taskOf(0, 6));

        promise(5);
        due(o.turn(0, 6), 2);
        due(o.turn(0, 6), 6);
        due(o.turn(0, 0), 6);
        due(o.taskOf(0, 0), 0);
        refused(o, BEYOND, () -> o.turn(0, -1));
        refused(o, BEYOND, () -> o.turn(0, 7));
        refused(o, BEYOND, () -> o.turn(6, 0));
        refused(o, BEYOND, () -> o.turn(-1, 0));

        promise(6);
        due(o.needs(2, 4), -1);
        due(o.needs(2, 3), 4);
        due(o.needs(2, -1), 3);
        due(o.taskOf(2, 3), -1);
        refused(o, BEYOND, () -> o.needs(2, 2));
        refused(o, BEYOND, () -> o.needs(2, 6));
        refused(o, BEYOND, () -> o.needs(2, -2));
        refused(o, BEYOND, () -> o.needs(6, -1));
        refused(o, BEYOND, () -> o.needs(-1, -1));

        promise(7);
        due(o.strike(3), 9);
        due(o.strike(3), 0);
        due(o.taskOf(3, 2), 0);
        refused(o, BEYOND, () -> o.strike(6));
        refused(o, BEYOND, () -> o.strike(-1));

        promise(8);
        CountedBook n = told("name 2 worth 33;task 2 hours 4;task 2 hours 6 needs 0;person;person bears 2");
        int[] of = {33, 1, 1, 2, 10, 0, 0};
        for (int what = 0; what <= 6; what++) {
            due(n.nameOf(2, what), of[what]);
        }
        n.needs(0, 1);
        due(n.nameOf(2, 5), -1);
        n.needs(1, -1);
        due(n.nameOf(2, 5), 1);
        n.strike(1);
        due(n.nameOf(2, 5), 0);
        due(n.nameOf(2, 1), 1);
        due(n.nameOf(2, 3), 2);
        makeOld(n, 1);
        due(n.nameOf(2, 2), -1);
        due(n.nameOf(2, 6), 1);
        due(n.nameOf(2, 3), 3);
        due(n.nameOf(2, 4), 6);
        n.strike(0);
        n.strike(2);
        due(n.nameOf(2, 1), 0);
        due(n.nameOf(2, 5), -1);
        refused(n, BEYOND, () -> n.nameOf(-1, 0));
        refused(n, BEYOND, () -> n.nameOf(8, 0));
        refused(n, BEYOND, () -> n.nameOf(0, -1));
        refused(n, BEYOND, () -> n.nameOf(0, 7));

        promise(9);
        CountedBook r = told("task 0 hours 1;task 1 hours 1 needs 0;task 2 hours 1 needs 1;task 3 hours 1 needs 2");
        r.task(0, 4, 1);
        due(r.rings(), 0);
        r.needs(0, 2);
        due(r.rings(), 7);
        r.needs(4, 3);
        due(r.rings(), 7);
        due(r.taskOf(3, 5), 0);

        promise(10);
        due(r.waits(0), 31);
        due(r.waits(3), 16);
        due(r.waits(4), 0);
        r.strike(1);
        due(r.rings(), 0);
        due(r.waits(1), 0);
        due(r.waits(0), 0);
        due(r.waits(2), 25);
        refused(r, BEYOND, () -> r.waits(5));
        refused(r, BEYOND, () -> r.waits(-1));
        CountedBook twenty = new CountedBook();
        for (int i = 0; i < 20; i++) {
            twenty.task(0, 0, 1);
        }
        for (int i = 0; i < 20; i++) {
            twenty.needs(i, (i + 1) % 20);
        }
        due(twenty.rings(), 0xfffff);
        due(twenty.waits(7), 0xfffff);
        twenty.needs(19, -1);
        due(twenty.rings(), 0);
        due(twenty.waits(19), 0x7ffff);
    }

    private static void persons() {
        promise(11);
        CountedBook x = new CountedBook();
        due(x.person(9), 0);
        due(x.person(1), 1);
        refused(x, BEYOND, () -> x.person(0));
        refused(x, BEYOND, () -> x.person(10));
        for (int i = 2; i < 8; i++) {
            due(x.person(3), i);
        }
        refused(x, FULL, () -> x.person(3));
        refused(x, BEYOND, () -> x.person(0));

        promise(12);
        int[] first = {-1, 0, 9, -1};
        for (int what = 0; what <= 3; what++) {
            due(x.of(0, what), first[what]);
        }
        refused(x, BEYOND, () -> x.of(8, 0));
        refused(x, BEYOND, () -> x.of(-1, 0));
        refused(x, BEYOND, () -> x.of(0, 4));
        refused(x, BEYOND, () -> x.of(0, -1));

        promise(13);
        due(x.change(0, 2, 1), 9);
        due(x.change(0, 2, 9), 1);
        due(x.change(0, 1, 39), 0);
        due(x.change(0, 1, 0), 39);
        refused(x, BEYOND, () -> x.change(0, 1, 40));
        refused(x, BEYOND, () -> x.change(0, 1, -1));
        refused(x, BEYOND, () -> x.change(0, 2, 0));
        refused(x, BEYOND, () -> x.change(0, 2, 10));
        refused(x, BEYOND, () -> x.change(0, 0, 1));
        refused(x, BEYOND, () -> x.change(0, 3, 1));
        refused(x, BEYOND, () -> x.change(8, 1, 1));
        refused(x, BEYOND, () -> x.change(-1, 1, 1));
        makeOld(x, 7);
        due(x.change(7, 1, 12), 40);

        promise(14);
        due(x.helps(0, 7), -1);
        due(x.helps(0, 1), 7);
        due(x.of(0, 3), 1);
        due(x.helps(0, -1), 1);
        refused(x, BEYOND, () -> x.helps(0, 0));
        refused(x, BEYOND, () -> x.helps(0, 8));
        refused(x, BEYOND, () -> x.helps(0, -2));
        refused(x, BEYOND, () -> x.helps(8, 0));

        promise(15);
        due(x.take(0, 5), -1);
        due(x.take(0, 5), 5);
        due(x.take(0, 6), 5);
        due(x.take(1, 5), -1);
        refused(x, STATE, () -> x.take(1, 6));
        refused(x, BEYOND, () -> x.take(1, 8));
        refused(x, BEYOND, () -> x.take(1, -2));
        refused(x, BEYOND, () -> x.take(8, 6));
        due(x.take(1, -1), 5);
        due(x.nameOf(5, 6), 0);
        makeOld(x, 6);
        refused(x, STATE, () -> x.take(6, 3));
        refused(x, STATE, () -> x.take(6, 6));
        due(x.take(6, -1), -1);

        promise(16);
        due(x.exchange(0, 1), 1);
        due(x.of(0, 0), -1);
        due(x.of(1, 0), 6);
        x.take(0, 2);
        due(x.exchange(1, 0), 1);
        due(x.of(0, 0), 6);
        due(x.of(1, 0), 2);
        refused(x, BEYOND, () -> x.exchange(0, 0));
        refused(x, BEYOND, () -> x.exchange(6, 6));
        refused(x, BEYOND, () -> x.exchange(0, 8));
        refused(x, BEYOND, () -> x.exchange(-1, 0));
        refused(x, STATE, () -> x.exchange(0, 6));
        refused(x, STATE, () -> x.exchange(6, 0));

        promise(17);
        CountedBook b = new CountedBook();
        b.seed(3);
        due(b.born(2), 2);
        int z = 3 * 1103515245 + 12345;
        due(b.of(0, 2), (z >>> 8) % 9 + 1);
        z = z * 1103515245 + 12345;
        due(b.of(1, 2), (z >>> 8) % 9 + 1);
        due(b.count(7), z);
        due(b.of(1, 1), 0);
        due(b.of(1, 0), -1);
        due(b.born(8), 8);
        for (int i = 2; i < 8; i++) {
            z = z * 1103515245 + 12345;
            due(b.of(i, 2), (z >>> 8) % 9 + 1);
        }
        due(b.count(7), z);
        due(b.born(1), 8);
        due(b.count(7), z);
        refused(b, BEYOND, () -> b.born(0));
        refused(b, BEYOND, () -> b.born(9));
    }

    /** Hours that are left of a task of 100 hours behind a year with one bearer. */
    private static int left(int kind, int hands, int year) {
        CountedBook x = atYear(year);
        x.task(kind, 0, 100);
        x.person(hands);
        x.change(0, 1, 7);
        x.take(0, 0);
        x.years(1);
        return x.taskOf(0, 2);
    }

    private static void years() {
        promise(18);
        workOfKinds();
        growth();
        helpers();
        leaving();
        CountedBook x = told("task 0 hours 3;task 0 hours 2;task 0 hours 9 needs 1;person age 7 bears 0");
        due(x.years(1), 1);
        due(x.years(1), 1);
        due(x.years(2), 0);
        due(x.years(1), 1);
        due(x.count(0), 5);
        refused(x, BEYOND, () -> x.years(0));
        refused(x, BEYOND, () -> x.years(61));
        refused(x, BEYOND, () -> x.years(FAR));
        CountedBook late = atYear(998);
        refused(late, STATE, () -> late.years(2));
        refused(late, BEYOND, () -> late.years(61));
        due(late.years(1), 0);
        refused(late, STATE, () -> late.years(1));

        promise(19);
        CountedBook a = told("name 1 worth 7;task 0 hours 4;task 1 hours 3;person age 39 bears 0;person age 6 bears 1");
        String before = look(a);
        int[][] ahead = {{2, 7, 3, 0, 0}, {3, 9, 3, 0, 1}, {2, 6, 1, 7, 1}};
        for (int n = 0; n < 3; n++) {
            for (int what = 0; what <= 4; what++) {
                due(a.ahead(n, what), ahead[n][what]);
            }
        }
        due(look(a).equals(before) ? 1 : 0, 1);
        refused(a, BEYOND, () -> a.ahead(-1, 0));
        refused(a, BEYOND, () -> a.ahead(101, 0));
        refused(a, BEYOND, () -> a.ahead(0, 5));
        refused(a, BEYOND, () -> a.ahead(0, -1));
        CountedBook l = atYear(900);
        due(l.ahead(99, 0), 0);
        refused(l, STATE, () -> l.ahead(100, 0));
        refused(l, BEYOND, () -> l.ahead(100, 5));

        promise(20);
        CountedBook s = told("task 0 hours 4;task 1 hours 9;task 1 hours 3;person age 6 bears 0;person bears 1");
        due(s.shut(0), 3);
        due(s.shut(1), 11);
        due(s.shut(2), 0);
        due(s.count(0), 0);
        CountedBook hundred = told("task 0 hours 100;person age 39 bears 0;person hands 2");
        refused(hundred, NONE, () -> hundred.shut(0));
        refused(s, BEYOND, () -> s.shut(8));
        refused(s, BEYOND, () -> s.shut(-1));
        refused(l, STATE, () -> l.shut(0));
        refused(l, BEYOND, () -> l.shut(8));
        due(atYear(899).shut(0), 0);

        promise(21);
        due(s.ends(0), 3);
        due(s.ends(1), 10);
        due(s.ends(2), 11);
        s.strike(2);
        due(s.ends(2), 0);
        refused(hundred, NONE, () -> hundred.ends(0));
        refused(s, BEYOND, () -> s.ends(3));
        refused(s, BEYOND, () -> s.ends(-1));
        l.task(0, 0, 1);
        l.strike(0);
        refused(l, STATE, () -> l.ends(0));
        refused(l, BEYOND, () -> l.ends(1));
        hundredYears();
    }

    /** A name that one bears, and that an old helper ends behind just so many years. */
    private static void hundredYears() {
        CountedBook x = told("task 0 hours 99;person hands 1;person hands 1 bears 0;person");
        x.needs(0, -1);
        x.helps(0, 1);
        // hands 1 halved are 0: only the bearer's 33 years from 7 to 39 count, then 5 hours come
        due(x.ahead(40, 1), 99 - 33 + 5);
        due(x.ahead(100, 1), 71);
        due(x.shut(0), NONE);
        x.strike(0);
        x.task(0, 0, 33);
        due(x.shut(0), 40);
        due(x.ends(1), 40);
    }

    private static void workOfKinds() {
        int[] even = {100 - 5, 100 - 5, 95 + 9, 95 + 10, 100 - 10, 100 - 11, 100 - 4 + 1};
        int[] odd = {100 - 5, 100 - 2, 95 + 9, 95 + 10, 100 - 10, 100 - 11, 100 - 1};
        for (int kind = 0; kind <= 6; kind++) {
            due(left(kind, 5, 0), even[kind]);
            due(left(kind, 5, 1), odd[kind]);
        }
        due(left(1, 1, 1), 100);
        due(left(6, 1, 1), 100);
        due(left(6, 1, 0), 101);
        // a feud that needs an ended task of a name: that has to be borne
        CountedBook x = told("task 1 hours 1;feud 0 hours 50 needs 0;person hands 9 age 7 bears 0");
        x.strike(0);
        due(x.ahead(1, 1), 50 + 6);
        x.person(1);
        x.take(1, 1);
        due(x.ahead(1, 1), 41 + 5);
        x.needs(1, -1);
        x.take(1, -1);
        due(x.ahead(1, 1), 41 + 5);
        // it waits for one of its own name
        x.task(0, 0, 1);
        x.strike(2);
        x.needs(1, 2);
        due(x.ahead(1, 1), 41 + 5);
    }

    private static void growth() {
        CountedBook x = told("debt 0 hours 999;feud 0 hours 990;tower 0 hours 999;debt 0 hours 9;letter 1 hours 8");
        x.years(1);
        int[] hours = {999, 999, 999, 9, 8};
        for (int t = 0; t < hours.length; t++) {
            due(x.taskOf(t, 2), hours[t]);
        }
        CountedBook y = told("tower 0 hours 10;promise 1 hours 10;wall 2 hours 10;task 3 hours 10");
        y.years(3);
        due(y.taskOf(0, 2), 12);
        due(y.taskOf(1, 2), 10);
        due(y.taskOf(2, 2), 10);
        due(y.taskOf(3, 2), 10);
        // what is ended does not grow
        CountedBook z = told("feud 0 hours 9;person hands 9 age 7 bears 0");
        due(z.years(1), 1);
        due(z.years(5), 0);
        due(z.taskOf(0, 2), 0);
    }

    private static void helpers() {
        // too young for work; the helper needs to be seven, the helped one not
        CountedBook x = told("task 0 hours 50;person hands 4 age 6 bears 0;person hands 5 age 7;person hands 5 age 6");
        x.helps(1, 0);
        x.helps(2, 0);
        x.years(1);
        due(x.taskOf(0, 2), 48);
        x.years(1);
        due(x.taskOf(0, 2), 48 - 4 - 2 - 2);
        // at 40 one still helps
        makeOld(x, 1);
        int now = x.taskOf(0, 2);
        x.years(1);
        due(x.taskOf(0, 2), now - 4 - 2 - 2);
        // one whose own name has something at hand does not help
        CountedBook y = told("task 0 hours 50;task 1 hours 50;person hands 9 age 7 bears 0;person hands 9 age 7 bears 1");
        y.helps(1, 0);
        y.years(1);
        due(y.taskOf(0, 2), 41);
        due(y.taskOf(1, 2), 41);
        // shut, or nothing at hand: helps
        y.needs(1, 0);
        due(y.ahead(1, 1), 41 - 9 - 4 + 41);
        y.needs(1, -1);
        y.strike(1);
        due(y.ahead(1, 1), 41 - 9 - 4);
        // it ends its own in the same year, and helps still
        y.task(0, 1, 9);
        due(y.ahead(1, 1), 41 - 9 - 4);
        // the helped one has to bear a name, with something at hand
        y.take(0, -1);
        due(y.ahead(1, 1), 41);
        // half of one hand is none; on a promise it is 1, as 1 is added
        CountedBook z = told("promise 0 hours 50;person bears 0;person hands 1 age 9");
        z.helps(1, 0);
        due(z.ahead(1, 1), 49);
        z.turn(0, 4);
        due(z.ahead(1, 1), 50);
        byNumbers();
    }

    private static void byNumbers() {
        // 0 ends what 1 waits for, in the same year; not the other way round
        CountedBook x = told("task 0 hours 3;task 1 hours 9 needs 0;person age 7 bears 0;person age 7 bears 1");
        due(x.ahead(1, 1), 6);
        x.exchange(0, 1);
        due(x.ahead(1, 1), 9);
        // a bearer goes on with the next task only in the next year
        CountedBook y = told("task 0 hours 1;task 0 hours 9;person hands 9 age 7 bears 0");
        due(y.ahead(1, 1), 9);
        // helper 0 ends the name of 1, who is then free to help 2
        CountedBook z = told("task 1 hours 6;task 2 hours 50;person hands 6 age 7;person age 7 bears 1;person bears 2");
        z.helps(0, 1);
        z.helps(1, 2);
        due(z.ahead(1, 1), 49);
    }

    private static void leaving() {
        CountedBook x = told("task 0 hours 50;task 1 hours 3;person age 39 bears 0;person age 39 bears 1;person age 38 bears 2");
        due(x.years(1), 1);
        due(x.of(0, 0), -1);
        due(x.of(0, 1), 40);
        due(x.nameOf(0, 6), 1);
        due(x.nameOf(0, 3), 2);
        due(x.taskOf(2, 0), 0);
        due(x.taskOf(2, 1), 0);
        due(x.taskOf(2, 2), 5);
        due(x.taskOf(2, 3), -1);
        due(x.nameOf(1, 6), 1);
        due(x.nameOf(1, 3), 1);
        due(x.of(2, 0), 2);
        x.years(1);
        due(x.of(0, 1), 40);
        due(x.of(2, 0), -1);
        due(x.nameOf(2, 6), 1);
        due(x.count(1), 3);
        CountedBook full = new CountedBook();
        for (int i = 0; i < 20; i++) {
            full.task(0, 0, 9);
        }
        full.person(3);
        full.change(0, 1, 39);
        full.take(0, 0);
        due(full.years(1), 0);
        due(full.count(1), 20);
        due(full.nameOf(0, 6), 1);
        due(full.of(0, 0), -1);
        // two leave in one year, and there is room for one task more: the first gets it
        CountedBook two = new CountedBook();
        for (int i = 0; i < 19; i++) {
            two.task(0, i % 2, 9);
        }
        for (int p = 0; p < 2; p++) {
            two.person(3);
            two.change(p, 1, 39);
            two.take(p, 1 - p);
        }
        two.years(1);
        due(two.taskOf(19, 1), 1);
        due(two.count(1), 20);
    }

    private static void choosing() {
        promise(22);
        CountedBook x = told("name 1 worth 50;name 2 worth 50;task 0 hours 3;task 1 hours 99;task 2 hours 99",
                "name 3 worth 99;task 3 hours 100;name 4 worth 99;task 4 hours 1;name 5 worth 99;person;person bears 4");
        due(x.choose(0), 1);
        String before = look(x);
        x.choose(0);
        due(look(x).equals(before) ? 1 : 0, 1);
        x.worth(2, 51);
        due(x.choose(0), 2);
        x.change(0, 1, 8);
        due(x.choose(0), 0);
        x.change(0, 1, 39);
        due(x.choose(0), 0);
        x.task(0, 0, 1);
        refused(x, NONE, () -> x.choose(0));
        refused(x, STATE, () -> x.choose(1));
        refused(x, BEYOND, () -> x.choose(2));
        refused(x, BEYOND, () -> x.choose(-1));
        x.years(1);
        refused(x, STATE, () -> x.choose(0));
        CountedBook late = atYear(959);
        late.person(3);
        late.task(0, 6, 1);
        due(late.choose(0), 6);
        late.years(1);
        refused(late, STATE, () -> late.choose(0));
        refused(late, BEYOND, () -> late.choose(1));

        promise(23);
        CountedBook h = told("task 0 hours 99;person hands 1 bears 0");
        due(h.handsFor(0), 3);
        due(h.of(0, 2), 1);
        h.change(0, 1, 8);
        due(h.handsFor(0), 4);
        h.change(0, 1, 39);
        refused(h, NONE, () -> h.handsFor(0));
        h.task(0, 0, 9);
        h.strike(0);
        due(h.handsFor(0), 9);
        h.strike(1);
        due(h.handsFor(0), 1);
        h.take(0, -1);
        refused(h, STATE, () -> h.handsFor(0));
        refused(h, BEYOND, () -> h.handsFor(1));
        refused(h, BEYOND, () -> h.handsFor(-1));
        letYearsGo(late, 960);
        late.take(0, 6);
        refused(late, STATE, () -> late.handsFor(0));
        CountedBook early = atYear(959);
        early.person(3);
        early.take(0, 0);
        due(early.handsFor(0), 1);
        firstOnes();
        givings();
        lives();
        striking();
    }

    /** Person 0, name 0 and task 0 count as all others. */
    private static void firstOnes() {
        promise(22);
        CountedBook x = told("name 0 worth 50;task 0 hours 3;task 1 hours 3;person;person age 7");
        due(x.choose(1), 0);
        x.take(0, 0);
        refused(x, STATE, () -> x.choose(0));
        due(x.choose(1), 1);
        x.helps(0, 1);
        x.take(1, 1);
        x.change(0, 1, 7);
        due(x.ahead(1, 1), 0);
        x.task(0, 0, 50);
        x.task(0, 1, 50);
        x.strike(0);
        x.strike(1);
        // 0 bears name 0, which has something at hand: no help
        due(x.ahead(1, 1), 47 + 47);
        promise(24);
        CountedBook y = told("name 0 worth 50;task 0 hours 3;task 1 hours 3;person age 7 bears 0;person age 7");
        due(y.most(1), 60);
        y.take(0, 2);
        due(y.most(1), 50);
        y.take(0, -1);
        y.take(1, 2);
        due(y.most(1), 50);
        due(y.give(1), 1);
        due(y.of(0, 0), 0);
        // what could be ended, but isn't, as it waits for a ring, does not stand ahead of the first giving
        CountedBook z = told("task 0 hours 3;task 1 hours 3;task 2 hours 1;task 2 hours 1 needs 2;person age 7;person age 7");
        z.needs(2, 3);
        z.needs(0, 2);
        z.needs(1, 2);
        due(z.most(9), 0);
        due(z.give(9), 0);
        z.needs(1, -1);
        due(z.give(9), 1);
        due(z.of(0, 0), -1);
        due(z.of(1, 0), 1);
        helpedGiving();
    }

    /** Only with all who help is it ended in time. */
    private static void helpedGiving() {
        CountedBook x = told("promise 0 hours 33;letter 1 hours 30;task 2 hours 20;person hands 9 age 7;person age 6");
        read(x, "person hands 8 age 7 bears 3;person hands 8 age 7 bears 4");
        x.helps(2, 1);
        x.helps(3, 1);
        // 8 hands halved are 4: 9 on a promise, 8 on a letter, 4 on a task
        due(x.most(1), 0);
        due(x.most(2), 20);
        x.change(1, 2, 7);
        due(x.most(2), 20);
        x.strike(0);
        x.strike(1);
        x.worth(2, 50);
        due(x.most(1), 20);
        due(x.most(2), 20 + 50);
        due(x.give(2), 1);
        due(x.of(0, 0), -1);
        due(x.of(1, 0), 2);
        x.take(1, -1);
        x.change(0, 2, 1);
        x.change(1, 2, 3);
        x.strike(2);
        x.task(0, 2, 19);
        due(x.most(2), 20 + 50);
        x.change(1, 2, 2);
        due(x.most(2), 20);
    }

    private static void givings() {
        promise(24);
        CountedBook x = told("name 0 worth 5;name 1 worth 20;name 2 worth 7;task 0 hours 3;task 1 hours 6;task 2 hours 30",
                "name 3 worth 90;task 3 hours 3;person age 7;person age 7;person hands 9 age 7;person age 7 bears 3");
        due(x.most(1), 90 + 20 + 5);
        due(x.most(3), 90 + 20 + 5);
        due(x.most(4), 90 + 20 + 5 + 7);
        due(x.of(0, 0), -1);
        refused(x, BEYOND, () -> x.most(0));
        refused(x, BEYOND, () -> x.most(41));
        CountedBook late = atYear(960);
        due(late.most(39), 0);
        refused(late, STATE, () -> late.most(40));
        refused(late, BEYOND, () -> late.most(41));
        for (int i = 0; i < 5; i++) {
            late.person(3);
        }
        refused(late, SIZE, () -> late.most(39));
        refused(late, STATE, () -> late.most(40));
        late.take(0, 0);
        due(late.most(39), 0);
        late.take(0, -1);
        makeOld(late, 0);
        due(late.most(38), 0);
        due(late.give(38), 0);

        promise(25);
        due(x.give(1), 2);
        // only 9 hands end name 1 in a year; of the others it is the first who gets none
        due(x.of(0, 0), -1);
        due(x.of(1, 0), 0);
        due(x.of(2, 0), 1);
        x.take(1, -1);
        x.take(2, -1);
        due(x.give(4), 3);
        due(x.of(0, 0), 0);
        due(x.of(1, 0), 1);
        due(x.of(2, 0), 2);
        due(x.give(4), 0);
        refused(x, BEYOND, () -> x.give(0));
        refused(x, BEYOND, () -> x.give(41));
        // none comes ahead of 0, so the last person gets it, and of equal names the least
        CountedBook y = told("task 5 hours 3;task 2 hours 30;person age 7;person age 7;person age 7");
        due(y.give(3), 1);
        due(y.of(0, 0), -1);
        due(y.of(1, 0), -1);
        due(y.of(2, 0), 5);
        CountedBook z = told("task 5 hours 3;task 2 hours 3;person age 7");
        due(z.give(1), 1);
        due(z.of(0, 0), 2);
        CountedBook none = told("task 5 hours 30;person age 7");
        due(none.give(9), 0);
        due(none.of(0, 0), -1);
        CountedBook l = atYear(999);
        for (int i = 0; i < 5; i++) {
            l.person(3);
        }
        refused(l, STATE, () -> l.give(1));
        CountedBook many = new CountedBook();
        many.born(5);
        refused(many, SIZE, () -> many.give(1));
        // a name that nobody should end for itself is given, if another waits for it
        CountedBook w = told("name 0 worth 0;task 0 hours 3;task 1 hours 3 needs 0;person age 7;person age 7");
        due(w.most(1), 10);
        due(w.give(1), 2);
        due(w.of(0, 0), 0);
        due(w.of(1, 0), 1);
    }

    private static void lives() {
        promise(26);
        CountedBook x = told("task 0 hours 33;task 1 hours 34;task 2 hours 9 needs 1;wall 3 hours 49;person hands 9 bears 0");
        x.person(9);
        x.take(1, 1);
        due(x.lives(0, 1), 1);
        // 34 hours: one is left, and 5 come
        due(x.lives(1, 1), 2);
        // 17 odd years with 1, 16 even ones with 2
        due(x.lives(3, 2), 1);
        due(x.lives(3, 1), 4);
        x.task(1, 4, 50);
        due(x.lives(4, 2), 2);
        x.strike(4);
        due(x.count(0), 0);
        refused(x, NONE, () -> x.lives(2, 9));
        refused(x, STATE, () -> x.lives(4, 9));
        refused(x, BEYOND, () -> x.lives(4, 0));
        refused(x, BEYOND, () -> x.lives(4, 10));
        refused(x, BEYOND, () -> x.lives(8, 1));
        refused(x, BEYOND, () -> x.lives(-1, 1));
        // 33 a life less 5: 33 + 8 * 28 end behind nine
        CountedBook y = new CountedBook();
        y.task(0, 0, 33 + 8 * 28);
        due(y.lives(0, 1), 9);
        y.task(0, 0, 1);
        due(y.lives(0, 1), NONE);
        CountedBook late = atYear(999);
        late.task(0, 0, 34);
        due(late.lives(0, 1), 2);
        late.strike(0);
        refused(late, STATE, () -> late.lives(0, 1));
    }

    private static void striking() {
        promise(27);
        CountedBook x = told("task 0 hours 30;task 1 hours 40;debt 2 hours 35;task 3 hours 40");
        due(x.best(1), 1);
        due(x.best(2), 2);
        due(x.taskOf(2, 2), 35);
        x.strike(2);
        due(x.best(60), 1);
        refused(x, BEYOND, () -> x.best(0));
        refused(x, BEYOND, () -> x.best(61));
        for (int t = 0; t < 4; t++) {
            x.strike(t);
        }
        refused(x, NONE, () -> x.best(60));
        CountedBook none = new CountedBook();
        refused(none, NONE, () -> none.best(1));
        CountedBook late = atYear(940);
        refused(late, STATE, () -> late.best(60));
        refused(late, BEYOND, () -> late.best(61));
        refused(late, NONE, () -> late.best(59));
        CountedBook z = told("task 0 hours 1;task 1 hours 50 needs 0;task 2 hours 9;person hands 9 age 7 bears 1");
        due(z.best(6), 0);
        due(z.best(4), 1);
        // all will be ended in any case: the first that isn't now
        CountedBook y = told("task 0 hours 1;task 0 hours 1;task 0 hours 1;person age 7 bears 0");
        y.strike(0);
        due(y.best(9), 1);

        promise(28);
        CountedBook w = told("task 0 hours 50;letter 1 hours 50;person age 7 bears 0;person age 7 bears 1;person hands 5 age 7");
        due(w.whom(2, 1), 1);
        due(w.of(2, 3), -1);
        w.turn(1, 0);
        due(w.whom(2, 1), 0);
        w.strike(0);
        w.strike(1);
        due(w.whom(2, 1), -1);
        w.helps(2, 0);
        due(w.whom(2, 60), -1);
        due(w.of(2, 3), 0);
        refused(w, BEYOND, () -> w.whom(3, 1));
        refused(w, BEYOND, () -> w.whom(-1, 1));
        refused(w, BEYOND, () -> w.whom(0, 0));
        refused(w, BEYOND, () -> w.whom(0, 61));
        late.person(3);
        refused(late, STATE, () -> late.whom(0, 60));
        refused(late, BEYOND, () -> late.whom(1, 60));
        due(late.whom(0, 59), -1);

        promise(29);
        CountedBook s = new CountedBook();
        due(s.seed(BEYOND), 1);
        due(s.seed(DEEP), BEYOND);
        due(s.seed(FAR), DEEP);
        due(s.count(7), FAR);
        due(s.status(-1), 0);
    }

    private static void texts() {
        promise(30);
        CountedBook x = new CountedBook();
        due(x.feed('p' << 24 | 'e' << 16 | 'r' << 8 | 's', 4), 4);
        due(x.feed('X' << 16 | 'o' << 8 | 'n', 2), 6);
        due(x.text(), 1);
        due(x.count(3), 1);
        refused(x, BEYOND, () -> x.feed(0, 0));
        refused(x, BEYOND, () -> x.feed(0, 5));
        refused(x, BEYOND, () -> x.feed(0, -1));
        due(feed(x, " ".repeat(118)), 118);
        refused(x, FULL, () -> x.feed(0x20202020, 3));
        refused(x, BEYOND, () -> x.feed(0x20202020, 5));
        due(x.feed(0x2020, 2), 120);
        refused(x, FULL, () -> x.feed(32, 1));

        promise(31);
        due(x.wipe(), 120);
        due(x.wipe(), 0);
        due(x.feed(32, 1), 1);
        due(x.wipe(), 1);

        promise(32);
        CountedBook t = new CountedBook();
        due(read(t, "  name0worth99 ;task 1hours 5;wall 2 hours 1 needs 0;person hands 9 age 39 bears 7  "), 4);
        due(t.nameOf(0, 0), 99);
        due(t.taskOf(1, 3), 0);
        due(t.of(0, 0), 7);
        due(t.of(0, 1), 39);
        due(t.of(0, 2), 9);
        due(t.count(6), 0);
        due(read(t, "person age 3;person bears 00005"), 2);
        due(read(t, "name 7 worth 0;task 7 hours 1;person age 0"), 3);
        due(t.nameOf(7, 0), 0);
        due(t.nameOf(7, 4), 1);
        due(t.of(3, 1), 0);
        due(t.taskOf(2, 3), -1);
        due(t.of(1, 2), 3);
        due(t.of(1, 1), 3);
        due(t.of(2, 0), 5);
        String[] kinds = {"task", "wall", "debt", "feud", "letter", "promise", "tower"};
        for (int kind = 0; kind < kinds.length; kind++) {
            due(read(t, kinds[kind] + " 3 hours 999"), 1);
            due(t.taskOf(3 + kind, 0), kind);
        }
        faults(t);
        fullBooks();
    }

    private static void faults(CountedBook t) {
        String before = look(t);
        String[] texts = {"", "   ", ";", "person;", "person;  ", "person;;person", "person 3", "name 8 worth 1",
            "name 1 worth 100", "name 1", "name 1 hours", "name 1 worth", "name worth", "Name 1 worth 1",
            "task 8 hours 1", "task 1 hours 0", "task 1 hours 1000", "task 1 hours 4294967297", "task 1 hours 1 needs 10",
            "task 1 hours 1 needs", "task 1 hours 1 needs x", "task 1 hours 1 needs 10000", "person hands 0",
            "person hands 10", "person age 40", "person age 1 hands 2", "person bears 8", "person bears 7",
            "person bears 1;person bears 1", "person bears 1 age 2", "persons", "bame 1 worth 1", "personz", "tasks 1 hours 1", "person\tage 1",
            "name 1 worth 5 ; jo", "name 1 worth 5 5", "name 1 worth -5", "person hands hands", "task 1 hours 1 needs 8 9"};
        int[] places = {0, 3, 0, 7, 9, 7, 7, 5, 13, 6, 7, 12, 5, 0, 5, 13, 13, 13, 21, 20, 21, 21, 13, 13, 11, 13, 13, 13,
            28, 15, 0, 0, 0, 0, 6, 17, 15, 13, 13, 23};
        for (int i = 0; i < texts.length; i++) {
            CountedBook u = t.twin();
            due(read(u, texts[i]), -1 - places[i]);
            due(look(u).equals(before) ? 1 : 0, 1);
            due(u.status(-1), 0);
        }
        due(read(t, "person" + (char) 200), -7);
        due(t.status(-1), 0);
        // a fault in the last item takes all of them back
        due(read(t, "name 0 worth 1;task 0 hours 3;person bears 0;name 0 worth 100"), -1 - 58);
        due(look(t).equals(before) ? 1 : 0, 1);
        // a task can be needed by a later one of the same text, not by itself
        due(read(t, "task 0 hours 1;task 0 hours 1 needs 10"), 2);
        due(read(t, "task 0 hours 1;task 0 hours 1 needs 13"), -1 - 36);
        due(t.count(1), 12);
    }

    private static void fullBooks() {
        CountedBook x = new CountedBook();
        x.born(7);
        due(read(x, "person; person 5"), -1 - 8);
        due(x.count(3), 7);
        due(read(x, "person"), 1);
        due(read(x, "name 0 worth 1; person bears 99"), -1 - 16);
        for (int i = 0; i < 19; i++) {
            x.task(0, 0, 1);
        }
        due(read(x, "wall 0 hours 1;tower 9"), -1 - 15);
        due(x.count(1), 19);
        due(read(x, "wall 0 hours 1 needs 18"), 1);
        due(read(x, "task"), -1);
        due(read(x, "name 3 worth 77"), 1);
        due(x.nameOf(3, 0), 77);
    }

    private static void spotsAndSheets() {
        promise(33);
        CountedBook x = told("task 0 hours 1;wall 0 hours 1;debt 0 hours 1;feud 0 hours 1",
                "letter 0 hours 1;promise 0 hours 1;tower 0 hours 1");
        due(x.hold(9, 6), 1);
        due(x.as(9, 6), 6);
        due(x.hold(9, -1), 1);
        refused(x, MISSING, () -> x.as(9, 6));
        due(x.hold(0, 0), 1);
        refused(x, BEYOND, () -> x.hold(10, 0));
        refused(x, BEYOND, () -> x.hold(-1, 0));
        refused(x, BEYOND, () -> x.hold(0, 7));
        refused(x, BEYOND, () -> x.hold(0, -2));
        due(x.as(0, 0), 0);

        promise(34);
        int[][] above = {{0}, {0, 1}, {0, 2}, {0, 2, 3}, {0, 4}, {0, 4, 5}, {0, 1, 6}};
        for (int kind = 0; kind < 7; kind++) {
            x.hold(0, kind);
            int known = 0;
            for (int k : above[kind]) {
                known |= 1 << k;
            }
            for (int k = 0; k < 7; k++) {
                due(x.as(0, k), (known >>> k & 1) == 1 ? kind : KIND);
            }
        }
        refused(x, KIND, () -> x.as(0, 5));
        x.turn(6, 5);
        due(x.as(0, 4), 6);
        refused(x, KIND, () -> x.as(0, 1));
        x.strike(6);
        due(x.as(0, 5), 6);
        refused(x, BEYOND, () -> x.as(10, 0));
        refused(x, BEYOND, () -> x.as(-1, 0));
        refused(x, BEYOND, () -> x.as(0, 7));
        refused(x, BEYOND, () -> x.as(1, -1));
        refused(x, MISSING, () -> x.as(1, 0));
        sheets();
        loading();
        judging();
    }

    private static void sheets() {
        promise(35);
        CountedBook x = new CountedBook();
        due(x.sheet(0, 8, 40), 40);
        due(x.sheet(3, 16, 0), 0);
        due(x.sheet(1, 32, 5), 5);
        due(x.write(0, 39, 1), 1);
        due(x.sheet(0, 0, 40), 0);
        refused(x, MISSING, () -> x.write(0, 0, 1));
        refused(x, BEYOND, () -> x.sheet(4, 8, -1));
        refused(x, BEYOND, () -> x.sheet(-1, 8, 1));
        refused(x, BEYOND, () -> x.sheet(0, 9, -1));
        refused(x, BEYOND, () -> x.sheet(0, -8, 1));
        refused(x, SIZE, () -> x.sheet(0, 8, -1));
        refused(x, SIZE, () -> x.sheet(1, 0, DEEP));
        refused(x, BEYOND, () -> x.sheet(1, 0, 41));
        refused(x, BEYOND, () -> x.sheet(1, 32, FAR));
        due(x.write(1, 4, 7), 1);
        // made anew, all are 0
        x.task(0, 0, 1);
        x.strike(0);
        x.sheet(1, 32, 1);
        x.write(1, 0, 5);
        due(x.judge(1, 0), 1);
        x.sheet(1, 32, 1);
        due(x.judge(1, 0), 0);

        promise(36);
        refused(x, BEYOND, () -> x.write(4, 0, 1));
        refused(x, BEYOND, () -> x.write(-1, 0, 1));
        refused(x, BEYOND, () -> x.write(3, 0, 1));
        refused(x, BEYOND, () -> x.write(1, 1, 1));
        refused(x, BEYOND, () -> x.write(1, -1, 1));
        refused(x, MISSING, () -> x.write(0, 99, 1));
        x.sheet(0, 8, 1);
        x.sheet(2, 16, 1);
        x.task(0, 0, 127);
        x.strike(0);
        due(holds(x, 0, 127, 127), 1);
        due(holds(x, 0, 256 + 127, 127), 1);
        due(holds(x, 0, 128, 128), 0);
        due(holds(x, 2, 128, 128), 1);
        due(holds(x, 2, 65536 + 128, 128), 1);
        due(holds(x, 1, 65536 + 128, 128), 0);
        due(holds(x, 1, 128, 128), 1);
        // of 8 bits 255 is -1: load() takes it as no name
        CountedBook y = told("person bears 3");
        y.sheet(0, 8, 1);
        y.write(0, 0, 255);
        due(y.load(0), 1);
        due(y.of(0, 0), -1);
        y.take(0, 3);
        y.sheet(0, 16, 1);
        y.write(0, 0, 255);
        due(y.load(0), 0);
        y.write(0, 0, 65535);
        due(y.load(0), 1);

        promise(37);
        copies();
    }

    /** 1, if what is written comes back as hours of a task. */
    private static int holds(CountedBook x, int s, int v, int hours) {
        CountedBook y = new CountedBook();
        y.task(0, 0, hours);
        y.sheet(s, s == 0 ? 8 : s == 2 ? 16 : 32, 1);
        y.write(s, 0, v);
        return y.judge(s, 0) == 0 ? 1 : 0;
    }

    private static void copies() {
        CountedBook x = new CountedBook();
        for (int t = 0; t < 5; t++) {
            x.task(0, 0, t + 1);
        }
        x.sheet(0, 8, 5);
        for (int i = 0; i < 5; i++) {
            x.write(0, i, i + 1);
        }
        x.sheet(1, 8, 6);
        due(x.copy(0, 0, 1, 0, 5), 5);
        due(x.judge(1, 0), 6);
        due(x.copy(0, 0, 1, 1, 5), 5);
        // 1 1 2 3 4 5
        due(x.judge(1, 0), 2);
        due(x.copy(1, 1, 1, 0, 5), 5);
        due(x.judge(1, 0), 6);
        // upward within one sheet: as they all were
        due(x.copy(0, 0, 0, 1, 4), 4);
        due(x.copy(0, 1, 0, 0, 4), 4);
        due(x.judge(0, 0), 5);
        due(x.copy(0, 5, 1, 6, 0), 0);
        x.sheet(2, 16, 5);
        refused(x, BEYOND, () -> x.copy(4, 0, 0, 0, 1));
        refused(x, BEYOND, () -> x.copy(3, 0, 4, 0, 1));
        refused(x, MISSING, () -> x.copy(3, 0, 2, -1, 1));
        refused(x, MISSING, () -> x.copy(2, 0, 3, 0, 1));
        refused(x, KIND, () -> x.copy(0, -1, 2, 0, 1));
        refused(x, BEYOND, () -> x.copy(0, -1, 1, 0, 1));
        refused(x, BEYOND, () -> x.copy(0, 0, 1, -1, 1));
        refused(x, BEYOND, () -> x.copy(0, 0, 1, 0, -1));
        refused(x, BEYOND, () -> x.copy(0, 1, 1, 0, 5));
        refused(x, BEYOND, () -> x.copy(0, 0, 1, 2, 5));
        refused(x, BEYOND, () -> x.copy(0, 6, 1, 0, 0));
        refused(x, BEYOND, () -> x.copy(0, FAR, 1, 0, FAR));
        refused(x, BEYOND, () -> x.copy(0, 1, 1, 1, FAR));
        refused(x, BEYOND, () -> x.copy(0, DEEP, 1, 0, 1));
    }

    private static void loading() {
        promise(38);
        CountedBook x = told("person bears 1;person bears 2;person;person");
        x.sheet(0, 8, 6);
        int[] names = {3, 1, -1, 4, 5, 6};
        for (int i = 0; i < names.length; i++) {
            x.write(0, i, names[i]);
        }
        // 3 is taken first, so 1 is free then
        due(x.load(0), 4);
        int[] borne = {3, 1, -1, 4};
        for (int p = 0; p < 4; p++) {
            due(x.of(p, 0), borne[p]);
        }
        x.write(0, 1, 4);
        x.write(0, 0, 7);
        due(x.load(0), 1);
        due(x.of(0, 0), 7);
        due(x.of(1, 0), 1);
        x.write(0, 1, 8);
        due(x.load(0), 1);
        x.write(0, 1, -2);
        due(x.load(0), 1);
        makeOld(x, 1);
        x.write(0, 1, 2);
        due(x.load(0), 1);
        x.write(0, 1, -1);
        due(x.load(0), 4);
        x.sheet(0, 8, 0);
        due(x.load(0), 0);
        due(x.status(-1), 0);
        refused(x, MISSING, () -> x.load(3));
        refused(x, BEYOND, () -> x.load(4));
        refused(x, BEYOND, () -> x.load(-1));
    }

    private static void judging() {
        promise(39);
        CountedBook x = told("task 0 hours 9;debt 1 hours 20;person age 38 bears 0");
        x.sheet(0, 16, 2);
        x.write(0, 0, 9);
        x.write(0, 1, 20);
        due(x.judge(0, 0), 0);
        due(x.judge(0, 1), 1);
        x.write(0, 0, 6);
        x.write(0, 1, 22);
        due(x.judge(0, 0), 1);
        due(x.judge(0, 1), 0);
        x.write(0, 1, 23);
        due(x.judge(0, 1), 2);
        // behind two years a third task is there
        x.sheet(0, 16, 3);
        x.write(0, 0, 3);
        x.write(0, 1, 24);
        x.write(0, 2, 5);
        due(x.judge(0, 2), 0);
        x.sheet(1, 16, 2);
        x.copy(0, 0, 1, 0, 2);
        due(x.judge(1, 2), 3);
        x.sheet(1, 16, 4);
        x.copy(0, 0, 1, 0, 3);
        due(x.judge(1, 2), 4);
        due(x.count(0), 0);
        refused(x, BEYOND, () -> x.judge(4, 0));
        refused(x, BEYOND, () -> x.judge(-1, 0));
        refused(x, MISSING, () -> x.judge(3, 61));
        refused(x, BEYOND, () -> x.judge(0, 61));
        refused(x, BEYOND, () -> x.judge(0, -1));
        CountedBook late = atYear(960);
        late.sheet(0, 8, 0);
        due(late.judge(0, 39), 0);
        refused(late, STATE, () -> late.judge(0, 40));
        refused(late, BEYOND, () -> late.judge(0, 61));
    }

    private static void images() {
        promise(40);
        CountedBook x = told("name 1 worth 7;task 1 hours 9;person age 30 bears 1");
        x.hold(4, 0);
        x.seed(77);
        x.sheet(0, 8, 1);
        x.write(0, 0, 3);
        x.years(3);
        String first = look(x);
        due(x.image(), 1);
        read(x, "name 1 worth 9;task 1 hours 4;person age 2;name 2 worth 1");
        x.turn(0, 5);
        x.needs(0, 1);
        x.hold(4, 1);
        x.hold(5, 0);
        x.seed(5);
        x.helps(0, 1);
        x.change(0, 2, 9);
        x.write(0, 0, 2);
        x.years(30);
        feed(x, "person");

        promise(41);
        refused(x, BEYOND, () -> x.strike(9));
        due(x.undo(), 3);
        due(x.wipe(), 6);
        due(look(x).equals(first) ? 1 : 0, 1);
        due(x.as(4, 0), 0);
        due(x.as(5, 0), MISSING);
        due(x.count(7), 77);
        due(x.status(-1), 2);
        // sheets stay
        due(x.load(0), 1);
        due(x.of(0, 0), 2);
        // the image stays, whatever becomes of the book
        x.years(2);
        due(x.undo(), 3);
        due(look(x).equals(first) ? 1 : 0, 1);
        x.years(4);
        x.image();
        x.years(1);
        due(x.undo(), 7);
        due(x.undo(), 7);

        promise(42);
        due(x.tear(), 1);
        due(x.tear(), 0);
        refused(x, NONE, () -> x.undo());
        due(x.image(), 1);
        due(x.undo(), 7);
        due(x.tear(), 1);
        refused(new CountedBook(), NONE);

        promise(43);
        CountedBook c = told("name 1 worth 7;task 1 hours 9;task 2 hours 4;task 2 hours 6;person;person");
        c.strike(0);
        c.years(5);
        c.seed(BEYOND);
        feed(c, "abc");
        int[] counts = {5, 3, 2, 2, 7, 10, 3, BEYOND};
        for (int what = 0; what < counts.length; what++) {
            due(c.count(what), counts[what]);
        }
        due(c.status(-1), 0);
        refused(c, BEYOND, () -> c.count(8));
        refused(c, BEYOND, () -> c.count(-1));

        promise(44);
        statusOfAll();
    }

    private static void refused(CountedBook x, int finding) {
        due(x.tear(), 0);
        refused(x, finding, () -> x.undo());
    }

    private static void statusOfAll() {
        CountedBook x = new CountedBook();
        for (int i = 0; i < 8; i++) {
            x.person(3);
        }
        x.worth(8, 8);
        x.person(3);
        x.task(0, 0, 1);
        x.hold(0, 0);
        x.as(0, 1);
        x.undo();
        x.handsFor(0);
        x.as(1, 0);
        x.sheet(0, 8, -1);
        for (int which = 0; which <= 6; which++) {
            due(x.status(which), 1);
        }
        due(x.status(-1), 7);
        due(x.status(7), BEYOND);
        due(x.status(-2), BEYOND);
        due(x.status(0), 3);
        due(x.status(-1), 9);
        x.text();
        due(x.status(-1), 9);
        x.image();
        x.tear();
        x.image();
        x.worth(8, 8);
        x.undo();
        due(x.status(0), 4);
        due(x.status(-1), 10);
    }
}
