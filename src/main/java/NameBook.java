import java.util.Arrays;

/** Names with what is undone, and the persons who bear them. The document is ../shared/DOC.md. */
public final class NameBook {
    private static final int LOW = -1000001;
    private static final int BEYOND = LOW;
    private static final int FULL = LOW - 1;
    private static final int KIND = LOW - 2;
    private static final int NONE = LOW - 3;
    private static final int STATE = LOW - 4;
    private static final int MISSING = LOW - 5;
    private static final int SIZE = LOW - 6;
    private static final int FINDINGS = 7;

    private static final int NAMES = 8;
    private static final int TASKS = 20;
    private static final int PERSONS = 8;
    private static final int SPOTS = 10;
    private static final int SHEETS = 4;

    private static final int MOST_WORTH = 99;
    private static final int MOST_HOURS = 999;
    private static final int MOST_HANDS = 9;
    private static final int WORKING_AGE = 7;
    private static final int LAST_AGE = 40;
    private static final int LAST_YEAR = 999;
    private static final int FAR = 100;
    private static final int MOST_LIVES = 9;

    private final Book book = new Book();
    private final Book kept = new Book();
    private final Book trial = new Book();
    private final Walk walk = new Walk();
    private final Giving giving = new Giving(trial, walk);
    private final Tape tape = new Tape();
    private final Sheet[] sheets = new Sheet[SHEETS];
    private final int[] told = new int[FINDINGS];
    private boolean isKept;

    public NameBook() {
        for (int s = 0; s < SHEETS; s++) {
            sheets[s] = new Sheet();
        }
    }

    // ---- names, tasks

    public int worth(int name, int v) {
        if (!isName(name) || !isIn(v, 0, MOST_WORTH)) {
            return found(BEYOND);
        }
        int before = book.worths[name];
        book.worths[name] = v;
        return before;
    }

    public int task(int kind, int name, int hours) {
        if (!Kinds.isKind(kind) || !isName(name) || !isIn(hours, 1, MOST_HOURS)) {
            return found(BEYOND);
        }
        return book.taskCount >= TASKS ? found(FULL) : book.addTask(kind, name, hours, -1);
    }

    public int taskOf(int task, int what) {
        if (!book.hasTask(task)) {
            return found(BEYOND);
        }
        switch (what) {
            case 0: return book.kinds[task];
            case 1: return book.owners[task];
            case 2: return book.hours[task];
            case 3: return book.needed[task];
            case 4: return book.growthOf(task);
            case 5: return book.isWaiting(task, task) ? 1 : 0;
            default: return found(BEYOND);
        }
    }

    public int turn(int task, int kind) {
        if (!book.hasTask(task) || !Kinds.isKind(kind)) {
            return found(BEYOND);
        }
        int before = book.kinds[task];
        book.kinds[task] = kind;
        return before;
    }

    public int needs(int task, int other) {
        if (!book.hasTask(task) || other == task || other != -1 && !book.hasTask(other)) {
            return found(BEYOND);
        }
        int before = book.needed[task];
        book.needed[task] = other;
        return before;
    }

    public int strike(int task) {
        if (!book.hasTask(task)) {
            return found(BEYOND);
        }
        int before = book.hours[task];
        book.hours[task] = 0;
        return before;
    }

    public int nameOf(int name, int what) {
        if (!isName(name)) {
            return found(BEYOND);
        }
        switch (what) {
            case 0: return book.worths[name];
            case 1: return book.isOpen(name) ? 1 : 0;
            case 2: return book.bearerOf(name);
            case 3: return book.tasksOf(name);
            case 4: return book.hoursOf(name);
            case 5: return book.handOf(name);
            case 6: return book.gone[name];
            default: return found(BEYOND);
        }
    }

    public int rings() {
        int set = 0;
        for (int t = 0; t < book.taskCount; t++) {
            if (book.isWaiting(t, t)) {
                set |= 1 << t;
            }
        }
        return set;
    }

    public int waits(int task) {
        if (!book.hasTask(task)) {
            return found(BEYOND);
        }
        int set = 0;
        for (int t = 0; t < book.taskCount; t++) {
            if (book.isWaiting(t, task)) {
                set |= 1 << t;
            }
        }
        return set;
    }

    // ---- persons

    public int person(int hands) {
        if (!isIn(hands, 1, MOST_HANDS)) {
            return found(BEYOND);
        }
        return book.personCount >= PERSONS ? found(FULL) : book.addPerson(hands, 0, -1);
    }

    public int of(int person, int what) {
        if (!book.hasPerson(person)) {
            return found(BEYOND);
        }
        switch (what) {
            case 0: return book.borne[person];
            case 1: return book.ages[person];
            case 2: return book.hands[person];
            case 3: return book.helped[person];
            default: return found(BEYOND);
        }
    }

    public int change(int person, int what, int v) {
        if (!book.hasPerson(person)) {
            return found(BEYOND);
        }
        if (what == 2 && isIn(v, 1, MOST_HANDS)) {
            int before = book.hands[person];
            book.hands[person] = v;
            return before;
        }
        if (what == 1 && isIn(v, 0, LAST_AGE - 1)) {
            int before = book.ages[person];
            book.ages[person] = v;
            return before;
        }
        return found(BEYOND);
    }

    public int helps(int person, int other) {
        if (!book.hasPerson(person) || other == person || other != -1 && !book.hasPerson(other)) {
            return found(BEYOND);
        }
        int before = book.helped[person];
        book.helped[person] = other;
        return before;
    }

    public int take(int person, int name) {
        if (!book.hasPerson(person) || name != -1 && !isName(name)) {
            return found(BEYOND);
        }
        if (!book.mayTake(person, name)) {
            return found(STATE);
        }
        int before = book.borne[person];
        book.borne[person] = name;
        return before;
    }

    public int exchange(int one, int other) {
        if (!book.hasPerson(one) || !book.hasPerson(other) || one == other) {
            return found(BEYOND);
        }
        if (book.ages[one] >= LAST_AGE || book.ages[other] >= LAST_AGE) {
            return found(STATE);
        }
        int name = book.borne[one];
        book.borne[one] = book.borne[other];
        book.borne[other] = name;
        return 1;
    }

    public int born(int n) {
        if (!isIn(n, 1, PERSONS)) {
            return found(BEYOND);
        }
        for (int i = 0; i < n && book.personCount < PERSONS; i++) {
            book.addPerson(book.draw() % MOST_HANDS + 1, 0, -1);
        }
        return book.personCount;
    }

    // ---- years

    public int years(int n) {
        if (!isIn(n, 1, 60)) {
            return found(BEYOND);
        }
        if (isTooLate(n)) {
            return found(STATE);
        }
        int before = book.endedTasks();
        walk.go(book, n);
        return book.endedTasks() - before;
    }

    public int ahead(int n, int what) {
        if (!isIn(n, 0, FAR) || !isIn(what, 0, 4)) {
            return found(BEYOND);
        }
        if (isTooLate(n)) {
            return found(STATE);
        }
        lookAhead(n);
        switch (what) {
            case 0: return trial.taskCount - trial.endedTasks();
            case 1: return trial.hoursOfAll();
            case 2: return trial.openNames();
            case 3: return trial.endedWorth();
            default: return trial.goneOfAll();
        }
    }

    public int shut(int name) {
        if (!isName(name)) {
            return found(BEYOND);
        }
        if (isTooLate(FAR)) {
            return found(STATE);
        }
        lookAhead(0);
        for (int behind = 0; behind <= FAR; behind++) {
            if (!trial.isOpen(name)) {
                return behind;
            }
            walk.go(trial, 1);
        }
        return found(NONE);
    }

    public int ends(int task) {
        if (!book.hasTask(task)) {
            return found(BEYOND);
        }
        if (isTooLate(FAR)) {
            return found(STATE);
        }
        lookAhead(0);
        for (int behind = 0; behind <= FAR; behind++) {
            if (trial.isEnded(task)) {
                return behind;
            }
            walk.go(trial, 1);
        }
        return found(NONE);
    }

    // ---- choosing

    public int choose(int person) {
        if (!book.hasPerson(person)) {
            return found(BEYOND);
        }
        if (book.borne[person] >= 0 || book.ages[person] >= LAST_AGE || isTooLate(LAST_AGE)) {
            return found(STATE);
        }
        int free = book.freeNames();
        int best = -1;
        for (int name = 0; name < NAMES; name++) {
            boolean isBetter = best < 0 || book.worths[name] > book.worths[best];
            if ((free >>> name & 1) == 1 && isBetter && isShutInTime(person, name, book.hands[person])) {
                best = name;
            }
        }
        return best < 0 ? found(NONE) : best;
    }

    public int handsFor(int person) {
        if (!book.hasPerson(person)) {
            return found(BEYOND);
        }
        int name = book.borne[person];
        if (name < 0 || isTooLate(LAST_AGE)) {
            return found(STATE);
        }
        for (int hands = 1; hands <= MOST_HANDS; hands++) {
            if (isShutInTime(person, name, hands)) {
                return hands;
            }
        }
        return found(NONE);
    }

    public int most(int n) {
        int finding = whyNoGiving(n);
        if (finding != 0) {
            return found(finding);
        }
        giving.begin(book, n);
        giving.weighFrom(book, n, 0, book.freeNames(), giving.sure);
        return giving.bestWorth;
    }

    public int give(int n) {
        int finding = whyNoGiving(n);
        if (finding != 0) {
            return found(finding);
        }
        giving.begin(book, n);
        giving.weighFrom(book, n, 0, book.freeNames(), giving.sure);
        return giving.carryOut(book);
    }

    public int lives(int name, int hands) {
        if (!isName(name) || !isIn(hands, 1, MOST_HANDS)) {
            return found(BEYOND);
        }
        if (!book.isOpen(name)) {
            return found(STATE);
        }
        lookAhead(0);
        for (int life = 1; life <= MOST_LIVES; life++) {
            trial.personCount = 0;
            trial.addPerson(hands, 0, name);
            walk.go(trial, LAST_AGE);
            if (!trial.isOpen(name)) {
                return life;
            }
        }
        return found(NONE);
    }

    public int best(int n) {
        if (!isIn(n, 1, 60)) {
            return found(BEYOND);
        }
        if (isTooLate(n)) {
            return found(STATE);
        }
        int best = -1;
        int fewest = 0;
        for (int t = 0; t < book.taskCount; t++) {
            if (book.isEnded(t)) {
                continue;
            }
            trial.setTo(book);
            trial.hours[t] = 0;
            walk.go(trial, n);
            int left = trial.hoursOfAll();
            if (best < 0 || left < fewest) {
                best = t;
                fewest = left;
            }
        }
        return best < 0 ? found(NONE) : best;
    }

    public int whom(int person, int n) {
        if (!book.hasPerson(person) || !isIn(n, 1, 60)) {
            return found(BEYOND);
        }
        if (isTooLate(n)) {
            return found(STATE);
        }
        int best = -1;
        int fewest = 0;
        for (int other = -1; other < book.personCount; other++) {
            if (other == person) {
                continue;
            }
            trial.setTo(book);
            trial.helped[person] = other;
            walk.go(trial, n);
            int left = trial.hoursOfAll();
            if (other < 0 || left < fewest) {
                best = other;
                fewest = left;
            }
        }
        return best;
    }

    public int seed(int v) {
        int before = book.z;
        book.z = v;
        return before;
    }

    // ---- texts

    public int feed(int bytes, int n) {
        if (!isIn(n, 1, 4)) {
            return found(BEYOND);
        }
        return tape.hasRoomFor(n) ? tape.append(bytes, n) : found(FULL);
    }

    public int wipe() {
        return tape.clear();
    }

    public int text() {
        trial.setTo(book);
        int answer = tape.readInto(trial);
        tape.clear();
        if (answer >= 0) {
            book.setTo(trial);
        }
        return answer;
    }

    // ---- spots, sheets

    public int hold(int spot, int task) {
        if (!isIn(spot, 0, SPOTS - 1) || task != -1 && !book.hasTask(task)) {
            return found(BEYOND);
        }
        book.spots[spot] = task;
        return 1;
    }

    public int as(int spot, int kind) {
        if (!isIn(spot, 0, SPOTS - 1) || !Kinds.isKind(kind)) {
            return found(BEYOND);
        }
        int task = book.spots[spot];
        if (!book.hasTask(task)) {
            return found(MISSING);
        }
        return Kinds.isUnder(book.kinds[task], kind) ? task : found(KIND);
    }

    public int sheet(int s, int bits, int n) {
        if (!isSheet(s) || bits != 0 && bits != 8 && bits != 16 && bits != 32) {
            return found(BEYOND);
        }
        if (n < 0) {
            return found(SIZE);
        }
        return n > Sheet.MOST ? found(BEYOND) : sheets[s].become(bits, n);
    }

    public int write(int s, int i, int v) {
        if (!isSheet(s)) {
            return found(BEYOND);
        }
        if (sheets[s].isMissing()) {
            return found(MISSING);
        }
        if (!isIn(i, 0, sheets[s].size - 1)) {
            return found(BEYOND);
        }
        sheets[s].put(i, v);
        return 1;
    }

    public int copy(int s, int from, int t, int to, int n) {
        if (!isSheet(s) || !isSheet(t)) {
            return found(BEYOND);
        }
        if (sheets[s].isMissing() || sheets[t].isMissing()) {
            return found(MISSING);
        }
        if (sheets[s].bits != sheets[t].bits) {
            return found(KIND);
        }
        if (!sheets[s].hasRange(from, n) || !sheets[t].hasRange(to, n)) {
            return found(BEYOND);
        }
        // arraycopy takes all numbers as they were, also within one sheet
        System.arraycopy(sheets[s].numbers, from, sheets[t].numbers, to, n);
        return n;
    }

    public int load(int s) {
        if (!isSheet(s)) {
            return found(BEYOND);
        }
        if (sheets[s].isMissing()) {
            return found(MISSING);
        }
        int end = Math.min(sheets[s].size, book.personCount);
        for (int p = 0; p < end; p++) {
            int name = sheets[s].numbers[p];
            if (name != -1 && !isName(name) || !book.mayTake(p, name)) {
                return p;
            }
            book.borne[p] = name;
        }
        return end;
    }

    public int judge(int s, int n) {
        if (!isSheet(s)) {
            return found(BEYOND);
        }
        if (sheets[s].isMissing()) {
            return found(MISSING);
        }
        if (!isIn(n, 0, 60)) {
            return found(BEYOND);
        }
        if (isTooLate(n)) {
            return found(STATE);
        }
        lookAhead(n);
        int end = Math.min(sheets[s].size, trial.taskCount);
        int right = 0;
        while (right < end && sheets[s].numbers[right] == trial.hours[right]) {
            right++;
        }
        boolean isAll = right == sheets[s].size && right == trial.taskCount;
        return isAll ? 0 : 1 + right;
    }

    // ---- images

    public int image() {
        kept.setTo(book);
        isKept = true;
        return 1;
    }

    public int undo() {
        if (!isKept) {
            return found(NONE);
        }
        book.setTo(kept);
        return book.year;
    }

    public int tear() {
        int before = isKept ? 1 : 0;
        isKept = false;
        return before;
    }

    public int count(int what) {
        switch (what) {
            case 0: return book.year;
            case 1: return book.taskCount;
            case 2: return book.taskCount - book.endedTasks();
            case 3: return book.personCount;
            case 4: return book.endedWorth();
            case 5: return book.hoursOfAll();
            case 6: return tape.length;
            case 7: return book.z;
            default: return found(BEYOND);
        }
    }

    public int status(int which) {
        if (!isIn(which, -1, FINDINGS - 1)) {
            return found(BEYOND);
        }
        if (which >= 0) {
            return told[which];
        }
        int all = 0;
        for (int i = 0; i < FINDINGS; i++) {
            all += told[i];
        }
        return all;
    }

    // ---- what the acts share

    private int found(int finding) {
        int which = LOW - finding;
        if (isIn(which, 0, FINDINGS - 1)) {
            told[which]++;
        }
        return finding;
    }

    private static boolean isIn(int v, int least, int most) {
        return v >= least && v <= most;
    }

    private static boolean isName(int name) {
        return name >= 0 && name < NAMES;
    }

    private static boolean isSheet(int s) {
        return s >= 0 && s < SHEETS;
    }

    private boolean isTooLate(int n) {
        return book.year + n > LAST_YEAR;
    }

    private void lookAhead(int n) {
        trial.setTo(book);
        walk.go(trial, n);
    }

    /** A name that is shut stays so while years go, so it is enough to look behind the last of them. */
    private boolean isShutInTime(int person, int name, int hands) {
        trial.setTo(book);
        trial.borne[person] = name;
        trial.hands[person] = hands;
        walk.go(trial, LAST_AGE - book.ages[person]);
        return !trial.isOpen(name);
    }

    private int whyNoGiving(int n) {
        if (!isIn(n, 1, 40)) {
            return BEYOND;
        }
        if (isTooLate(n)) {
            return STATE;
        }
        return giving.gather(book) ? 0 : SIZE;
    }

    /** The tree of kinds, and what each does otherwise than the one above it. */
    private static final class Kinds {
        static final int TASK = 0;
        static final int WALL = 1;
        static final int DEBT = 2;
        static final int FEUD = 3;
        static final int LETTER = 4;
        static final int PROMISE = 5;
        static final int TOWER = 6;
        private static final int[] ABOVE = {-1, TASK, TASK, DEBT, TASK, LETTER, WALL};

        static boolean isKind(int kind) {
            return kind >= 0 && kind < ABOVE.length;
        }

        static boolean isUnder(int kind, int top) {
            int at = kind;
            for (int i = 0; i < ABOVE.length && at >= 0 && at < ABOVE.length; i++) {
                if (at == top) {
                    return true;
                }
                at = ABOVE[at];
            }
            return false;
        }

        static int workOf(int kind, int hands, int year) {
            int onWall = year % 2 == 0 ? hands : hands / 2;
            switch (kind) {
                case WALL: return onWall;
                case TOWER: return onWall > 0 ? onWall - 1 : 0;
                case LETTER: return 2 * hands;
                case PROMISE: return 2 * hands + 1;
                default: return hands;
            }
        }

        static int growthOf(int kind, int hours, int year) {
            switch (kind) {
                case DEBT: return hours / 10;
                case FEUD: return hours / 10 + 1;
                case TOWER: return year % 2 == 0 ? 1 : 0;
                default: return 0;
            }
        }
    }

    /** All that an image keeps. */
    private static final class Book {
        int year;
        int z = 1;
        int taskCount;
        int personCount;
        final int[] worths = new int[NAMES];
        final int[] gone = new int[NAMES];
        final int[] kinds = new int[TASKS];
        final int[] owners = new int[TASKS];
        final int[] hours = new int[TASKS];
        final int[] needed = new int[TASKS];
        final int[] borne = new int[PERSONS];
        final int[] ages = new int[PERSONS];
        final int[] hands = new int[PERSONS];
        final int[] helped = new int[PERSONS];
        final int[] spots = new int[SPOTS];

        Book() {
            Arrays.fill(worths, 10);
            Arrays.fill(spots, -1);
        }

        void setTo(Book other) {
            year = other.year;
            z = other.z;
            taskCount = other.taskCount;
            personCount = other.personCount;
            System.arraycopy(other.worths, 0, worths, 0, NAMES);
            System.arraycopy(other.gone, 0, gone, 0, NAMES);
            System.arraycopy(other.kinds, 0, kinds, 0, TASKS);
            System.arraycopy(other.owners, 0, owners, 0, TASKS);
            System.arraycopy(other.hours, 0, hours, 0, TASKS);
            System.arraycopy(other.needed, 0, needed, 0, TASKS);
            System.arraycopy(other.borne, 0, borne, 0, PERSONS);
            System.arraycopy(other.ages, 0, ages, 0, PERSONS);
            System.arraycopy(other.hands, 0, hands, 0, PERSONS);
            System.arraycopy(other.helped, 0, helped, 0, PERSONS);
            System.arraycopy(other.spots, 0, spots, 0, SPOTS);
        }

        int draw() {
            z = z * 1103515245 + 12345;
            return z >>> 8;
        }

        boolean hasTask(int task) {
            return task >= 0 && task < taskCount;
        }

        boolean hasPerson(int person) {
            return person >= 0 && person < personCount;
        }

        /** The new task's number, or -1 if there is no room. */
        int addTask(int kind, int name, int left, int other) {
            if (taskCount >= TASKS) {
                return -1;
            }
            kinds[taskCount] = kind;
            owners[taskCount] = name;
            hours[taskCount] = left;
            needed[taskCount] = other;
            return taskCount++;
        }

        /** The new person's number, or -1 if there is no room. */
        int addPerson(int strength, int age, int name) {
            if (personCount >= PERSONS) {
                return -1;
            }
            hands[personCount] = strength;
            ages[personCount] = age;
            borne[personCount] = name;
            helped[personCount] = -1;
            return personCount++;
        }

        boolean isEnded(int task) {
            return hours[task] == 0;
        }

        int endedTasks() {
            int ended = 0;
            for (int t = 0; t < taskCount; t++) {
                if (hours[t] == 0) {
                    ended++;
                }
            }
            return ended;
        }

        int hoursOfAll() {
            int sum = 0;
            for (int t = 0; t < taskCount; t++) {
                sum += hours[t];
            }
            return sum;
        }

        int growthOf(int task) {
            return isEnded(task) ? 0 : Kinds.growthOf(kinds[task], hours[task], year);
        }

        int workOf(int task, int strength) {
            int other = needed[task];
            if (kinds[task] == Kinds.FEUD && other >= 0 && bearerOf(owners[other]) < 0) {
                return 0;
            }
            return Kinds.workOf(kinds[task], strength, year);
        }

        /** Whether one task waits, by way of tasks that are not ended, for the other, which is not ended either. */
        boolean isWaiting(int task, int other) {
            int at = task;
            for (int i = 0; i < taskCount && hasTask(at) && hours[at] > 0; i++) {
                at = needed[at];
                if (at == other) {
                    return hours[other] > 0;
                }
            }
            return false;
        }

        int openNames() {
            int set = 0;
            for (int t = 0; t < taskCount; t++) {
                if (hours[t] > 0) {
                    set |= 1 << owners[t];
                }
            }
            return set;
        }

        boolean isOpen(int name) {
            return (openNames() >>> name & 1) == 1;
        }

        /** The names that are open and that nobody bears. */
        int freeNames() {
            int set = openNames();
            for (int p = 0; p < personCount; p++) {
                if (borne[p] >= 0) {
                    set &= ~(1 << borne[p]);
                }
            }
            return set;
        }

        int bearerOf(int name) {
            for (int p = 0; p < personCount; p++) {
                if (borne[p] == name) {
                    return p;
                }
            }
            return -1;
        }

        boolean mayTake(int person, int name) {
            if (name == -1) {
                return true;
            }
            int bearer = bearerOf(name);
            return ages[person] < LAST_AGE && (bearer < 0 || bearer == person);
        }

        int tasksOf(int name) {
            int sum = 0;
            for (int t = 0; t < taskCount; t++) {
                if (owners[t] == name) {
                    sum++;
                }
            }
            return sum;
        }

        int hoursOf(int name) {
            int sum = 0;
            for (int t = 0; t < taskCount; t++) {
                if (owners[t] == name) {
                    sum += hours[t];
                }
            }
            return sum;
        }

        /** As much as could ever be done in n years for a name, if a person bore it from now on. */
        int mostWork(int person, int name, int n) {
            int last = Math.min(ages[person] + n, LAST_AGE);
            int sum = Math.max(0, last - Math.max(ages[person], WORKING_AGE)) * mostWorkOf(name, hands[person]);
            for (int p = 0; p < personCount; p++) {
                if (helped[p] == person) {
                    sum += (last - ages[person]) * mostWorkOf(name, hands[p] / 2);
                }
            }
            return sum;
        }

        private int mostWorkOf(int name, int strength) {
            for (int t = 0; t < taskCount; t++) {
                if (owners[t] == name && hours[t] > 0 && Kinds.isUnder(kinds[t], Kinds.LETTER)) {
                    return Kinds.workOf(Kinds.PROMISE, strength, year);
                }
            }
            return strength;
        }

        private boolean isAtHand(int task) {
            return hours[task] > 0 && (needed[task] < 0 || hours[needed[task]] == 0);
        }

        int handOf(int name) {
            for (int t = 0; t < taskCount; t++) {
                if (owners[t] == name && isAtHand(t)) {
                    return t;
                }
            }
            return -1;
        }

        /** What is at hand for all names at once. */
        void findHands(int[] hand) {
            Arrays.fill(hand, -1);
            for (int t = taskCount - 1; t >= 0; t--) {
                if (isAtHand(t)) {
                    hand[owners[t]] = t;
                }
            }
        }

        int endedWorth() {
            int owned = 0;
            for (int t = 0; t < taskCount; t++) {
                owned |= 1 << owners[t];
            }
            return worthOf(owned & ~openNames());
        }

        int worthOf(int set) {
            int sum = 0;
            for (int name = 0; name < NAMES; name++) {
                if ((set >>> name & 1) == 1) {
                    sum += worths[name];
                }
            }
            return sum;
        }

        int goneOfAll() {
            int sum = 0;
            for (int name = 0; name < NAMES; name++) {
                sum += gone[name];
            }
            return sum;
        }
    }

    /** Goes through years of a book. */
    private static final class Walk {
        private static final int LEFT_BEHIND = 5;

        /** What is at hand for each name: it changes only when a task ends or comes, so it is kept till then. */
        private final int[] hand = new int[NAMES];

        void go(Book b, int n) {
            b.findHands(hand);
            for (int i = 0; i < n; i++) {
                bearersWork(b);
                helpersWork(b);
                tasksGrow(b);
                personsAge(b);
                b.year++;
            }
        }

        private void bearersWork(Book b) {
            for (int p = 0; p < b.personCount; p++) {
                if (b.borne[p] >= 0 && b.ages[p] >= WORKING_AGE) {
                    workOn(b, hand[b.borne[p]], b.hands[p]);
                }
            }
        }

        private void helpersWork(Book b) {
            for (int p = 0; p < b.personCount; p++) {
                int other = b.helped[p];
                if (other < 0 || b.ages[p] < WORKING_AGE || b.borne[other] < 0) {
                    continue;
                }
                // a name that is shut has none at hand either
                if (b.borne[p] < 0 || hand[b.borne[p]] < 0) {
                    workOn(b, hand[b.borne[other]], b.hands[p] / 2);
                }
            }
        }

        private void workOn(Book b, int task, int hands) {
            if (task < 0) {
                return;
            }
            b.hours[task] = Math.max(0, b.hours[task] - b.workOf(task, hands));
            if (b.hours[task] == 0) {
                b.findHands(hand);
            }
        }

        private void tasksGrow(Book b) {
            for (int t = 0; t < b.taskCount; t++) {
                if (b.hours[t] > 0 && b.kinds[t] != Kinds.TASK) {
                    b.hours[t] = Math.min(MOST_HOURS, b.hours[t] + b.growthOf(t));
                }
            }
        }

        private void personsAge(Book b) {
            for (int p = 0; p < b.personCount; p++) {
                if (b.ages[p] < LAST_AGE) {
                    b.ages[p]++;
                }
                if (b.ages[p] >= LAST_AGE && b.borne[p] >= 0) {
                    leave(b, p);
                }
            }
        }

        private void leave(Book b, int person) {
            int name = b.borne[person];
            b.borne[person] = -1;
            b.gone[name]++;
            if (b.isOpen(name)) {
                b.addTask(Kinds.TASK, name, LEFT_BEHIND, -1);
                b.findHands(hand);
            }
        }
    }

    /** Seeks the giving of free names by which most worth is ended. */
    private static final class Giving {
        private static final int MOST_TAKERS = 4;

        private final Book trial;
        private final Walk walk;
        private final int[] takers = new int[MOST_TAKERS];
        private final int[] got = new int[MOST_TAKERS];
        private final int[] bestGot = new int[MOST_TAKERS];
        /** The worth of each name for each taker, if it is not sure that this one can't end it; else 0. */
        private final int[] gains = new int[MOST_TAKERS * NAMES];
        /** The most that the takers from one on could gain together. */
        private final int[] hopes = new int[MOST_TAKERS + 1];
        private int takerCount;
        /** The most that could be ended by no giving at all. */
        int sure;
        int bestWorth;

        Giving(Book trial, Walk walk) {
            this.trial = trial;
            this.walk = walk;
        }

        /** Finds those who could get a name; false, if these are too many. */
        boolean gather(Book b) {
            takerCount = 0;
            for (int p = 0; p < b.personCount; p++) {
                if (b.borne[p] >= 0 || b.ages[p] >= LAST_AGE) {
                    continue;
                }
                if (takerCount >= MOST_TAKERS) {
                    return false;
                }
                takers[takerCount++] = p;
            }
            return true;
        }

        /** To be called behind gather() and ahead of weighFrom(). */
        void begin(Book b, int n) {
            bestWorth = -1;
            findGains(b, n);
            sure = b.endedWorth();
            for (int p = 0; p < b.personCount; p++) {
                if (b.borne[p] >= 0 && b.isOpen(b.borne[p])) {
                    sure += gainOf(b, p, b.borne[p], n);
                }
            }
        }

        private void findGains(Book b, int n) {
            int free = b.freeNames();
            hopes[takerCount] = 0;
            for (int i = takerCount - 1; i >= 0; i--) {
                int most = 0;
                for (int name = 0; name < NAMES; name++) {
                    int gain = (free >>> name & 1) == 1 ? gainOf(b, takers[i], name, n) : 0;
                    gains[i * NAMES + name] = gain;
                    most = Math.max(most, gain);
                }
                hopes[i] = hopes[i + 1] + most;
            }
        }

        private static int gainOf(Book b, int person, int name, int n) {
            return b.hoursOf(name) > b.mostWork(person, name, n) ? 0 : b.worths[name];
        }

        /**
         * Goes through the givings in their order, so that the first of several equal ones stays;
         * passes over those that can't come above the best one: they are far too many to try all.
         */
        void weighFrom(Book b, int n, int i, int free, int atMost) {
            if (atMost + hopes[i] <= bestWorth) {
                return;
            }
            if (i >= takerCount) {
                weigh(b, n);
                return;
            }
            got[i] = -1;
            weighFrom(b, n, i + 1, free, atMost);
            for (int name = 0; name < NAMES; name++) {
                if ((free >>> name & 1) == 1) {
                    got[i] = name;
                    weighFrom(b, n, i + 1, free & ~(1 << name), atMost + gains[i * NAMES + name]);
                }
            }
        }

        private void weigh(Book b, int n) {
            trial.setTo(b);
            for (int i = 0; i < takerCount; i++) {
                trial.borne[takers[i]] = got[i];
            }
            walk.go(trial, n);
            int worth = trial.endedWorth();
            if (worth > bestWorth) {
                bestWorth = worth;
                System.arraycopy(got, 0, bestGot, 0, takerCount);
            }
        }

        int carryOut(Book b) {
            int given = 0;
            for (int i = 0; i < takerCount; i++) {
                b.borne[takers[i]] = bestGot[i];
                if (bestGot[i] >= 0) {
                    given++;
                }
            }
            return given;
        }
    }

    /** Bytes that come one behind the other, and the text that they make. */
    private static final class Tape {
        private static final int ROOM = 120;
        private static final int END = 0;
        private static final int WORD = 1;
        private static final int NUMBER = 2;
        private static final int SIGN = 3;
        private static final int OTHER = 4;
        /** Stands for each number that is too great for any place. */
        private static final int TOO_MUCH = 10000;

        private final int[] bytes = new int[ROOM];
        int length;
        private int sort;
        private int start;
        private int end;
        private int value;

        boolean hasRoomFor(int n) {
            return length + n <= ROOM;
        }

        int append(int word, int n) {
            for (int i = n - 1; i >= 0 && length < ROOM; i--) {
                bytes[length++] = word >>> 8 * i & 255;
            }
            return length;
        }

        int clear() {
            int before = length;
            length = 0;
            return before;
        }

        /** How many items were read into the book, or -1 less the place of the fault. */
        int readInto(Book b) {
            end = 0;
            for (int items = 1; items <= ROOM; items++) {
                advance();
                if (!readItem(b)) {
                    break;
                }
                if (sort == END) {
                    return items;
                }
                if (sort != SIGN) {
                    break;
                }
            }
            return -1 - start;
        }

        private void advance() {
            start = end;
            while (start < length && bytes[start] == ' ') {
                start++;
            }
            end = start;
            if (start >= length) {
                sort = END;
            } else if (isLetter(start)) {
                sort = WORD;
                while (end < length && isLetter(end)) {
                    end++;
                }
            } else if (isDigit(start)) {
                sort = NUMBER;
                readNumber();
            } else {
                sort = bytes[start] == ';' ? SIGN : OTHER;
                end = start + 1;
            }
        }

        private void readNumber() {
            value = 0;
            while (end < length && isDigit(end)) {
                value = Math.min(TOO_MUCH, value * 10 + bytes[end] - '0');
                end++;
            }
        }

        private boolean isLetter(int i) {
            return bytes[i] >= 'a' && bytes[i] <= 'z';
        }

        private boolean isDigit(int i) {
            return bytes[i] >= '0' && bytes[i] <= '9';
        }

        private boolean isWord(String word) {
            if (sort != WORD || end - start != word.length()) {
                return false;
            }
            for (int i = 0; i < word.length(); i++) {
                if (bytes[start + i] != word.charAt(i)) {
                    return false;
                }
            }
            return true;
        }

        /** Goes on behind the word, if it stands here. */
        private boolean passWord(String word) {
            boolean isHere = isWord(word);
            if (isHere) {
                advance();
            }
            return isHere;
        }

        /** Goes on behind the number, if one stands here that is as told; else -1. */
        private int passNumber(int least, int most) {
            if (sort != NUMBER || value < least || value > most) {
                return -1;
            }
            int passed = value;
            advance();
            return passed;
        }

        /** Each reader stops at the token that can't stand where it is: its place is the fault. */
        private boolean readItem(Book b) {
            if (passWord("name")) {
                return readName(b);
            }
            if (isWord("person")) {
                return b.personCount < PERSONS && readPerson(b);
            }
            int kind = kindHere();
            return kind >= 0 && b.taskCount < TASKS && readTask(b, kind);
        }

        private int kindHere() {
            if (isWord("task")) {
                return Kinds.TASK;
            }
            if (isWord("wall")) {
                return Kinds.WALL;
            }
            if (isWord("debt")) {
                return Kinds.DEBT;
            }
            if (isWord("feud")) {
                return Kinds.FEUD;
            }
            if (isWord("letter")) {
                return Kinds.LETTER;
            }
            if (isWord("promise")) {
                return Kinds.PROMISE;
            }
            return isWord("tower") ? Kinds.TOWER : -1;
        }

        private boolean readName(Book b) {
            int name = passNumber(0, NAMES - 1);
            if (name < 0 || !passWord("worth")) {
                return false;
            }
            int worth = passNumber(0, MOST_WORTH);
            if (worth < 0) {
                return false;
            }
            b.worths[name] = worth;
            return true;
        }

        private boolean readTask(Book b, int kind) {
            advance();
            int name = passNumber(0, NAMES - 1);
            if (name < 0 || !passWord("hours")) {
                return false;
            }
            int hours = passNumber(1, MOST_HOURS);
            if (hours < 0) {
                return false;
            }
            int other = -1;
            if (passWord("needs")) {
                other = passNumber(0, b.taskCount - 1);
                if (other < 0) {
                    return false;
                }
            }
            b.addTask(kind, name, hours, other);
            return true;
        }

        private boolean readPerson(Book b) {
            advance();
            int hands = passWord("hands") ? passNumber(1, MOST_HANDS) : 3;
            if (hands < 0) {
                return false;
            }
            int age = passWord("age") ? passNumber(0, LAST_AGE - 1) : 0;
            if (age < 0) {
                return false;
            }
            int name = -1;
            if (passWord("bears")) {
                if (sort == NUMBER && value < NAMES && b.bearerOf(value) >= 0) {
                    return false;
                }
                name = passNumber(0, NAMES - 1);
                if (name < 0) {
                    return false;
                }
            }
            b.addPerson(hands, age, name);
            return true;
        }
    }

    /** A row of numbers of 8, 16 or 32 bits, or missing. */
    private static final class Sheet {
        static final int MOST = 40;

        final int[] numbers = new int[MOST];
        int bits;
        int size;

        boolean isMissing() {
            return bits == 0;
        }

        int become(int width, int n) {
            bits = width;
            size = width == 0 ? 0 : n;
            Arrays.fill(numbers, 0);
            return size;
        }

        boolean hasRange(int from, int n) {
            return from >= 0 && n >= 0 && n <= size && from <= size - n;
        }

        void put(int i, int v) {
            if (bits == 8) {
                numbers[i] = (byte) v;
            } else if (bits == 16) {
                numbers[i] = (short) v;
            } else {
                numbers[i] = v;
            }
        }
    }
}
