import java.util.ArrayList;
import java.util.List;
import java.util.function.ToIntFunction;

/** A NameBook that is asked no more often than the document allows, and can be made once more as it is now. */
final class CountedBook {
    private static final int MOST_CALLS = 512;

    private final NameBook book = new NameBook();
    private final List<ToIntFunction<NameBook>> made = new ArrayList<>();

    private int ask(ToIntFunction<NameBook> call) {
        made.add(call);
        if (made.size() > MOST_CALLS) {
            throw new IllegalStateException("the test makes more than 512 calls on one object");
        }
        return call.applyAsInt(book);
    }

    /** Another book on which all the same calls were made. */
    CountedBook twin() {
        CountedBook twin = new CountedBook();
        made.forEach(twin::ask);
        return twin;
    }

    int worth(int name, int v) {
        return ask(b -> b.worth(name, v));
    }

    int task(int kind, int name, int hours) {
        return ask(b -> b.task(kind, name, hours));
    }

    int taskOf(int task, int what) {
        return ask(b -> b.taskOf(task, what));
    }

    int turn(int task, int kind) {
        return ask(b -> b.turn(task, kind));
    }

    int needs(int task, int other) {
        return ask(b -> b.needs(task, other));
    }

    int strike(int task) {
        return ask(b -> b.strike(task));
    }

    int nameOf(int name, int what) {
        return ask(b -> b.nameOf(name, what));
    }

    int rings() {
        return ask(b -> b.rings());
    }

    int waits(int task) {
        return ask(b -> b.waits(task));
    }

    int person(int hands) {
        return ask(b -> b.person(hands));
    }

    int of(int person, int what) {
        return ask(b -> b.of(person, what));
    }

    int change(int person, int what, int v) {
        return ask(b -> b.change(person, what, v));
    }

    int helps(int person, int other) {
        return ask(b -> b.helps(person, other));
    }

    int take(int person, int name) {
        return ask(b -> b.take(person, name));
    }

    int exchange(int one, int other) {
        return ask(b -> b.exchange(one, other));
    }

    int born(int n) {
        return ask(b -> b.born(n));
    }

    int years(int n) {
        return ask(b -> b.years(n));
    }

    int ahead(int n, int what) {
        return ask(b -> b.ahead(n, what));
    }

    int shut(int name) {
        return ask(b -> b.shut(name));
    }

    int ends(int task) {
        return ask(b -> b.ends(task));
    }

    int choose(int person) {
        return ask(b -> b.choose(person));
    }

    int handsFor(int person) {
        return ask(b -> b.handsFor(person));
    }

    int most(int n) {
        return ask(b -> b.most(n));
    }

    int give(int n) {
        return ask(b -> b.give(n));
    }

    int lives(int name, int hands) {
        return ask(b -> b.lives(name, hands));
    }

    int best(int n) {
        return ask(b -> b.best(n));
    }

    int whom(int person, int n) {
        return ask(b -> b.whom(person, n));
    }

    int seed(int v) {
        return ask(b -> b.seed(v));
    }

    int feed(int bytes, int n) {
        return ask(b -> b.feed(bytes, n));
    }

    int wipe() {
        return ask(b -> b.wipe());
    }

    int text() {
        return ask(b -> b.text());
    }

    int hold(int spot, int task) {
        return ask(b -> b.hold(spot, task));
    }

    int as(int spot, int kind) {
        return ask(b -> b.as(spot, kind));
    }

    int sheet(int s, int bits, int n) {
        return ask(b -> b.sheet(s, bits, n));
    }

    int write(int s, int i, int v) {
        return ask(b -> b.write(s, i, v));
    }

    int copy(int s, int from, int t, int to, int n) {
        return ask(b -> b.copy(s, from, t, to, n));
    }

    int load(int s) {
        return ask(b -> b.load(s));
    }

    int judge(int s, int n) {
        return ask(b -> b.judge(s, n));
    }

    int image() {
        return ask(b -> b.image());
    }

    int undo() {
        return ask(b -> b.undo());
    }

    int tear() {
        return ask(b -> b.tear());
    }

    int count(int what) {
        return ask(b -> b.count(what));
    }

    int status(int which) {
        return ask(b -> b.status(which));
    }
}
