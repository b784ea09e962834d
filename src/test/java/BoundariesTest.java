/**
 * Each sentence of the document that names a boundary, with a script of its own: the last that it allows, the first
 * that it refuses, on both sides, the empty and the full, what goes round, and findings in their order.
 * Script also sees to it that what is refused changes nothing but status().
 */
public final class BoundariesTest {
    private static int wrong;
    private static int scripts;

    public static void main(String[] args) {
        terms();
        kindsAndYears();
        lastYears();
        newBook();
        names();
        tasks();
        waiting();
        persons();
        bearing();
        goingOn();
        choosing();
        giving();
        livesAndHelp();
        tape();
        tokens();
        items();
        fullTexts();
        spots();
        sheets();
        copies();
        readers();
        images();
        everyAct();
        everyActLate();
        lastCall();
        System.out.println(wrong == 0 ? scripts + " scripts of boundaries hold" : wrong + " lines are not as due");
        if (wrong != 0) {
            System.exit(1);
        }
    }

    private static void says(String sentence, String lines) {
        scripts++;
        wrong += Script.run(sentence, lines);
    }

    private static void terms() {
        says("Terms: FINDINGS are answers below -1000000, LOW is -1000001, one less each", """
            8 x person(3)
            task(0, 0, 1)
            hold(0, 0)
            worth(8, 0) = -1000001
            person(3) = -1000002
            as(0, 1) = -1000003
            undo() = -1000004
            handsFor(0) = -1000005
            as(1, 0) = -1000006
            sheet(0, 8, -1) = -1000007
            """);
        says("Terms: what seed() and count(7) tell may be any int: no finding", """
            seed(-1000001) = 1
            count(7) = -1000001
            seed(-1000007) = -1000001
            count(7) = -1000007
            seed(MIN) = -1000007
            count(7) = MIN
            seed(MAX) = MIN
            count(7) = MAX
            seed(0) = MAX
            count(7) = 0
            status(-1) = 0
            count(8) = BEYOND
            """);
        says("Terms: quotients are cut", """
            read "debt 1 hours 1;debt 1 hours 9;debt 1 hours 10;debt 1 hours 19;debt 1 hours 20;debt 1 hours 999" = 6
            taskOf(0, 4) = 0
            taskOf(1, 4) = 0
            taskOf(2, 4) = 1
            taskOf(3, 4) = 1
            taskOf(4, 4) = 2
            taskOf(5, 4) = 99
            """);
        says("Terms: sets are told as bits: none, the first, the last", """
            20 x task(0, 7, 1)
            rings() = 0
            waits(0) = 0
            needs(0, 19)
            waits(19) = 0x1
            needs(19, 0)
            rings() = 0x80001
            needs(0, -1)
            waits(0) = 0x80000
            ahead(0, 2) = 128
            task(0, 0, 1) = FULL
            """);
        says("Terms: of several that would do the least number counts", """
            read "task 3 hours 3;task 5 hours 3;task 6 hours 3;person age 7;person age 7;person age 7 bears 5" = 6
            choose(0) = 3
            best(60) = 0
            worth(6, 11)
            choose(0) = 6
            """);
        says("Terms: AGE 0 at first, HANDS 3 at first, HELPS, NEEDS and NAME none at first", """
            read "task 0 hours 1;person" = 2
            of(0, 0) = -1
            of(0, 1) = 0
            of(0, 2) = 3
            of(0, 3) = -1
            taskOf(0, 3) = -1
            """);
        says("Terms: a NAME is OPEN, if one of its TASKS isn't ENDED; else it is SHUT (also without any)", """
            nameOf(3, 1) = 0
            task(0, 3, 1)
            task(0, 3, 1)
            nameOf(3, 1) = 1
            strike(0)
            nameOf(3, 1) = 1
            strike(1)
            nameOf(3, 1) = 0
            nameOf(2, 1) = 0
            """);
        says("Terms: AT HAND is the first that isn't ENDED and doesn't NEED one that isn't", """
            nameOf(0, 5) = -1
            4 x task(0, 0, 2)
            nameOf(0, 5) = 0
            needs(0, 1)
            nameOf(0, 5) = 1
            needs(1, 2)
            nameOf(0, 5) = 2
            needs(2, 0)
            nameOf(0, 5) = 3
            needs(3, 0)
            nameOf(0, 5) = -1
            nameOf(0, 1) = 1
            strike(0)
            nameOf(0, 5) = 2
            """);
        says("Terms: ENDED WORTH: NAMES that are SHUT and have a TASK at least", """
            count(4) = 0
            8 x worth(0, 99)
            count(4) = 0
            task(0, 0, 1)
            task(0, 0, 1)
            strike(0)
            count(4) = 0
            strike(1)
            count(4) = 99
            ahead(0, 3) = 99
            ahead(100, 3) = 99
            """);
        says("Terms: ENDED WORTH of all, at its most", """
            read "name0worth99;name1worth99;name2worth99;name3worth99;name4worth99;name5worth99;name6worth99;name7worth99" = 8
            read "task0hours1;task1hours1;task2hours1;task3hours1;task4hours1;task5hours1;task6hours1;task7hours1" = 8
            count(4) = 0
            strike(7)
            count(4) = 99
            strike(0)
            strike(1)
            strike(2)
            strike(3)
            strike(4)
            strike(5)
            count(4) = 693
            strike(6)
            count(4) = 792
            most(40) = 792
            """);
    }

    private static void kindsAndYears() {
        says("Terms: a YEAR, (a): each PERSON of AGE 7 or more", """
            read "task 0 hours 9;task 1 hours 9;person age 6 bears 0;person age 7 bears 1" = 4
            years(1) = 0
            taskOf(0, 2) = 9
            taskOf(1, 2) = 6
            years(1) = 0
            taskOf(0, 2) = 6
            taskOf(1, 2) = 3
            """);
        says("Terms: (a): at 39 one works, at 40 no more", """
            read "task 0 hours 9;person age 39 bears 0" = 2
            years(1) = 0
            taskOf(0, 2) = 6
            years(1) = 0
            taskOf(0, 2) = 6
            """);
        says("Terms: (a): HOURS are that less, 0 at least", """
            read "task 0 hours 10;task 1 hours 9;task 2 hours 8;person hands 9 age 7 bears 0" = 4
            read "person hands 9 age 7 bears 1;person hands 9 age 7 bears 2" = 2
            years(1) = 2
            taskOf(0, 2) = 1
            taskOf(1, 2) = 0
            taskOf(2, 2) = 0
            """);
        says("Terms: WALL: half of it (cut) in odd YEARS", """
            read "wall 0 hours 50;wall 1 hours 50;person hands 1 age 7 bears 0;person hands 9 age 7 bears 1" = 4
            years(1) = 0
            taskOf(0, 2) = 49
            taskOf(1, 2) = 41
            years(1) = 0
            taskOf(0, 2) = 49
            taskOf(1, 2) = 37
            years(1) = 0
            taskOf(0, 2) = 48
            taskOf(1, 2) = 28
            """);
        says("Terms: TOWER: as a WALL, less 1, 0 at least; GROWS 1, if YEAR is even", """
            read "tower 0 hours 50;tower 1 hours 50;tower 2 hours 50;person hands 1 age 7 bears 0" = 4
            read "person hands 2 age 7 bears 1;person hands 4 age 7 bears 2" = 2
            taskOf(0, 4) = 1
            years(1) = 0
            taskOf(0, 2) = 51
            taskOf(1, 2) = 50
            taskOf(2, 2) = 48
            taskOf(0, 4) = 0
            years(1) = 0
            taskOf(0, 2) = 51
            taskOf(1, 2) = 50
            taskOf(2, 2) = 47
            """);
        says("Terms: LETTER: twice as a TASK; PROMISE: as a LETTER, and 1", """
            read "letter 0 hours 18;letter 1 hours 19;promise 2 hours 19;promise 3 hours 20" = 4
            read "person hands 9 age 7 bears 0;person hands 9 age 7 bears 1;person hands 9 age 7 bears 2" = 3
            read "person hands 9 age 7 bears 3" = 1
            years(1) = 2
            taskOf(0, 2) = 0
            taskOf(1, 2) = 1
            taskOf(2, 2) = 0
            taskOf(3, 2) = 1
            """);
        says("Terms: half of HANDS 1 (cut) is 0: as a LETTER 0, as a PROMISE 1", """
            read "promise 0 hours 9;letter 1 hours 9;task 2 hours 9;person bears 0;person bears 1;person bears 2" = 6
            read "person hands 1 age 7;person hands 1 age 7;person hands 1 age 7" = 3
            helps(3, 0)
            helps(4, 1)
            helps(5, 2)
            years(1) = 0
            taskOf(0, 2) = 8
            taskOf(1, 2) = 9
            taskOf(2, 2) = 9
            """);
        says("Terms: FEUD: 0, if the NAME of the TASK that it NEEDS isn't borne (if it NEEDS any)", """
            read "feud 0 hours 50;task 1 hours 1;person hands 9 age 7 bears 0;person" = 4
            strike(1)
            ahead(1, 1) = 46
            needs(0, 1)
            ahead(1, 1) = 56
            take(1, 1)
            ahead(1, 1) = 46
            take(1, 2)
            ahead(1, 1) = 56
            """);
        says("Terms: FEUD: it NEEDS TASK 0, whose NAME is borne by PERSON 0", """
            read "task 0 hours 1;feud 7 hours 50 needs 0;person;person hands 9 age 7 bears 7" = 4
            strike(0)
            ahead(1, 1) = 56
            take(0, 0)
            ahead(1, 1) = 46
            """);
        says("Terms: FEUD, whose bearer leaves in (e), was borne in (a)", """
            read "feud 0 hours 50;task 1 hours 1;person hands 9 age 7 bears 0;person age 39 bears 1" = 4
            strike(1)
            needs(0, 1)
            years(1) = 0
            taskOf(0, 2) = 46
            years(1) = 0
            taskOf(0, 2) = 51
            """);
        says("Terms: GROWS: FEUD: as a DEBT, and 1", """
            read "feud 0 hours 1;feud 0 hours 9;feud 0 hours 10;feud 0 hours 999" = 4
            taskOf(0, 4) = 1
            taskOf(1, 4) = 1
            taskOf(2, 4) = 2
            taskOf(3, 4) = 100
            """);
        says("Terms: (c): GROWS (999 at most)", """
            read "debt 0 hours 908;debt 0 hours 909;debt 0 hours 910;debt 0 hours 999" = 4
            read "feud 0 hours 907;feud 0 hours 908;feud 0 hours 909;tower 0 hours 998;tower 0 hours 999" = 5
            years(1) = 0
            taskOf(0, 2) = 998
            taskOf(1, 2) = 999
            taskOf(2, 2) = 999
            taskOf(3, 2) = 999
            taskOf(4, 2) = 998
            taskOf(5, 2) = 999
            taskOf(6, 2) = 999
            taskOf(7, 2) = 999
            taskOf(8, 2) = 999
            years(1) = 0
            taskOf(0, 2) = 999
            taskOf(4, 2) = 999
            taskOf(8, 2) = 999
            """);
        says("Terms: (c): each TASK that isn't ENDED GROWS, an ENDED one does not", """
            read "feud 0 hours 9;feud 1 hours 10;person hands 9 age 7 bears 0;person hands 9 age 7 bears 1" = 4
            years(1) = 1
            taskOf(0, 2) = 0
            taskOf(1, 2) = 2
            taskOf(0, 4) = 0
            years(60) = 1
            taskOf(0, 2) = 0
            """);
    }

    private static void lastYears() {
        says("Terms: (b): each PERSON of AGE 7 or more (40, too), who HELPS one (of any AGE)", """
            read "task 0 hours 50;task 1 hours 50;task 2 hours 50;person bears 0;person bears 1;person bears 2" = 6
            read "person hands 9 age 6;person hands 9 age 7;person hands 9 age 39" = 3
            helps(3, 0)
            helps(4, 1)
            helps(5, 2)
            years(1) = 0
            taskOf(0, 2) = 50
            taskOf(1, 2) = 46
            taskOf(2, 2) = 46
            of(5, 1) = 40
            years(1) = 0
            taskOf(0, 2) = 46
            taskOf(2, 2) = 42
            years(1) = 0
            taskOf(2, 2) = 38
            """);
        says("Terms: (b): by numbers each PERSON, the first and the last", """
            read "task 0 hours 50;person hands 4 age 7;person;person;person bears 0" = 5
            4 x person(6)
            change(7, 1, 7)
            helps(0, 3)
            ahead(1, 1) = 48
            helps(7, 3)
            ahead(1, 1) = 45
            """);
        says("Terms: (b): half of its own HANDS (cut)", """
            read "task 0 hours 50;person bears 0;person hands 2 age 7;person hands 3 age 7;person hands 9 age 7" = 5
            helps(1, 0)
            ahead(1, 1) = 49
            helps(1, -1)
            helps(2, 0)
            ahead(1, 1) = 49
            helps(2, -1)
            helps(3, 0)
            ahead(1, 1) = 46
            """);
        says("Terms: (b): bears none, or whose NAME is SHUT, or has none AT HAND", """
            read "task 0 hours 50;task 1 hours 50;person bears 0;person hands 4 age 7" = 4
            helps(1, 0)
            ahead(1, 1) = 98
            take(1, 2)
            ahead(1, 1) = 98
            take(1, 1)
            ahead(1, 1) = 96
            needs(1, 0)
            ahead(1, 1) = 98
            """);
        says("Terms: (b): as it is then, behind all of (a): who has ended it in (a) helps", """
            read "task 0 hours 50;task 1 hours 4;person bears 0;person hands 4 age 7 bears 1" = 4
            helps(1, 0)
            ahead(1, 1) = 48
            task(0, 1, 1)
            ahead(1, 1) = 51
            """);
        says("Terms: (b): as it is then, behind all of (a): who has one AT HAND by what was ended in (a) helps not", """
            read "task 0 hours 9;task 1 hours 3;task 2 hours 9;person hands 9 age 7 bears 0;person age 7 bears 1" = 5
            read "person bears 2" = 1
            needs(0, 1)
            helps(0, 2)
            years(1) = 1
            taskOf(0, 2) = 9
            taskOf(2, 2) = 9
            """);
        says("Terms: (b): who HELPS one who bears a NAME: one who bears none isn't helped, nor is a SHUT NAME", """
            read "task 0 hours 9;person;person hands 9 age 7" = 3
            helps(1, 0)
            ahead(1, 1) = 9
            take(0, 1)
            ahead(1, 1) = 9
            take(0, 0)
            ahead(1, 1) = 5
            """);
        says("Terms: (b): at 40 nobody bears a NAME, so nobody at 40 is helped", """
            read "task 0 hours 50;person age 39 bears 0;person hands 9 age 7" = 3
            helps(1, 0)
            years(1) = 0
            taskOf(0, 2) = 43
            years(1) = 0
            taskOf(0, 2) = 43
            """);
        says("Terms: (d): AGE is one more (40 at most)", """
            read "person age 38;person age 39;person" = 3
            years(1) = 0
            of(0, 1) = 39
            of(1, 1) = 40
            of(2, 1) = 1
            years(1) = 0
            of(0, 1) = 40
            of(1, 1) = 40
            years(60) = 0
            of(0, 1) = 40
            of(1, 1) = 40
            of(2, 1) = 40
            """);
        says("Terms: (e): who has just become 40: it is borne no more, LIVES is one more, OPEN: one TASK more", """
            read "task 0 hours 50;task 1 hours 50;task 2 hours 3;person age 38 bears 0;person age 39 bears 1" = 5
            read "person age 39 bears 2" = 1
            years(1) = 1
            of(0, 0) = 0
            of(1, 0) = -1
            of(2, 0) = -1
            nameOf(0, 6) = 0
            nameOf(1, 6) = 1
            nameOf(2, 6) = 1
            count(1) = 4
            nameOf(1, 3) = 2
            nameOf(2, 3) = 1
            taskOf(3, 0) = 0
            taskOf(3, 1) = 1
            taskOf(3, 2) = 5
            taskOf(3, 3) = -1
            """);
        says("Terms: (e): none, if there are 20", """
            18 x task(0, 0, 99)
            task(0, 1, 99)
            read "person age 39 bears 1;person age 39 bears 0" = 2
            image()
            years(1) = 0
            count(1) = 20
            taskOf(19, 1) = 1
            nameOf(0, 3) = 18
            nameOf(0, 6) = 1
            nameOf(1, 6) = 1
            undo() = 0
            task(0, 2, 99)
            years(1) = 0
            count(1) = 20
            taskOf(19, 1) = 2
            nameOf(0, 6) = 1
            nameOf(1, 6) = 1
            of(0, 0) = -1
            of(1, 0) = -1
            """);
        says("Terms: (e): by numbers: the 20th goes to the NAME of the first PERSON", """
            18 x task(0, 0, 99)
            task(0, 1, 99)
            read "person age 39 bears 0;person age 39 bears 1" = 2
            years(1) = 0
            taskOf(19, 1) = 0
            """);
        says("Terms: a NAME that is borne no more can be taken again, and LIVES goes on", """
            read "task 0 hours 99;person age 39 bears 0;person age 38" = 3
            years(1)
            take(1, 0) = -1
            years(1)
            nameOf(0, 6) = 2
            ahead(0, 4) = 2
            count(1) = 3
            nameOf(0, 2) = -1
            """);
    }

    private static void newBook() {
        says("Promise 1: no TASKS", """
            count(1) = 0
            taskOf(0, 0) = BEYOND
            turn(0, 0) = BEYOND
            needs(0, -1) = BEYOND
            strike(0) = BEYOND
            waits(0) = BEYOND
            ends(0) = BEYOND
            hold(0, 0) = BEYOND
            rings() = 0
            best(1) = NONE
            lives(0, 1) = STATE
            count(2) = 0
            count(4) = 0
            count(5) = 0
            ahead(100, 0) = 0
            ahead(100, 1) = 0
            ahead(100, 2) = 0
            ahead(100, 3) = 0
            ahead(100, 4) = 0
            """);
        says("Promise 1: no PERSONS", """
            count(3) = 0
            of(0, 0) = BEYOND
            change(0, 1, 0) = BEYOND
            helps(0, -1) = BEYOND
            take(0, -1) = BEYOND
            exchange(0, 1) = BEYOND
            choose(0) = BEYOND
            handsFor(0) = BEYOND
            whom(0, 1) = BEYOND
            most(1) = 0
            most(40) = 0
            give(40) = 0
            years(60) = 0
            """);
        says("Promise 1: THE TAPE is empty, no image is kept, SPOTS hold nothing, SHEETS are MISSING", """
            count(6) = 0
            wipe() = 0
            text() = fault 0
            undo() = NONE
            tear() = 0
            as(0, 0) = MISSING
            as(9, 6) = MISSING
            write(0, 0, 0) = MISSING
            write(3, 0, 0) = MISSING
            copy(0, 0, 3, 0, 0) = MISSING
            load(0) = MISSING
            load(3) = MISSING
            judge(0, 0) = MISSING
            judge(3, 0) = MISSING
            """);
        says("Promise 1: YEAR is 0, z is 1, no act has answered a finding", """
            count(0) = 0
            count(7) = 1
            status(-1) = 0
            status(0) = 0
            status(1) = 0
            status(2) = 0
            status(3) = 0
            status(4) = 0
            status(5) = 0
            status(6) = 0
            """);
        says("Promise 1: NAMES 0 to 7, each with a WORTH of 10, SHUT, not borne, LIVES 0", """
            nameOf(0, 0) = 10
            nameOf(7, 0) = 10
            nameOf(0, 1) = 0
            nameOf(7, 1) = 0
            nameOf(0, 2) = -1
            nameOf(7, 2) = -1
            nameOf(7, 3) = 0
            nameOf(7, 4) = 0
            nameOf(7, 5) = -1
            nameOf(7, 6) = 0
            shut(0) = 0
            shut(7) = 0
            """);
    }

    private static void names() {
        says("Promise 2: WORTH (0 to 99)", """
            worth(0, 0) = 10
            worth(0, 99) = 0
            worth(0, -1) = BEYOND
            worth(0, 100) = BEYOND
            worth(0, MIN) = BEYOND
            worth(0, MAX) = BEYOND
            worth(0, 99) = 99
            nameOf(0, 0) = 99
            """);
        says("Promise 2: a NAME (0 to 7)", """
            worth(0, 1) = 10
            worth(7, 2) = 10
            worth(-1, 5) = BEYOND
            worth(8, 5) = BEYOND
            worth(MIN, 5) = BEYOND
            worth(MAX, 5) = BEYOND
            worth(8, 100) = BEYOND
            nameOf(0, 0) = 1
            nameOf(7, 0) = 2
            nameOf(1, 0) = 10
            """);
        says("Promise 8: what 0 to 6", """
            read "task 7 hours 9;person bears 7" = 2
            nameOf(7, 0) = 10
            nameOf(7, 6) = 0
            nameOf(7, -1) = BEYOND
            nameOf(7, 7) = BEYOND
            nameOf(7, MIN) = BEYOND
            nameOf(7, MAX) = BEYOND
            """);
        says("Promise 8: of a NAME (0 to 7)", """
            nameOf(0, 3) = 0
            nameOf(7, 3) = 0
            nameOf(-1, 0) = BEYOND
            nameOf(8, 0) = BEYOND
            nameOf(MIN, 6) = BEYOND
            nameOf(MAX, 6) = BEYOND
            nameOf(8, 7) = BEYOND
            """);
        says("Promise 8: of a full book: PERSON 7, 20 TASKS, 19980 HOURS, TASK 19 AT HAND", """
            20 x task(2, 7, 999)
            8 x person(9)
            take(7, 7)
            nameOf(7, 1) = 1
            nameOf(7, 2) = 7
            nameOf(7, 3) = 20
            nameOf(7, 4) = 19980
            nameOf(7, 5) = 0
            count(5) = 19980
            needs(0, 19)
            needs(1, 19)
            nameOf(7, 5) = 2
            """);
        says("Promise 8: what is AT HAND can be the last TASK there can be", """
            19 x task(0, 0, 1)
            task(0, 7, 999) = 19
            nameOf(7, 5) = 19
            nameOf(7, 4) = 999
            strike(19)
            nameOf(7, 5) = -1
            nameOf(7, 4) = 0
            nameOf(7, 3) = 1
            """);
    }

    private static void tasks() {
        says("Promise 3: hours (1 to 999)", """
            task(0, 0, 1) = 0
            task(0, 0, 999) = 1
            task(0, 0, 0) = BEYOND
            task(0, 0, 1000) = BEYOND
            task(0, 0, -1) = BEYOND
            task(0, 0, MIN) = BEYOND
            task(0, 0, MAX) = BEYOND
            taskOf(0, 2) = 1
            taskOf(1, 2) = 999
            """);
        says("Promise 3: kind (0 to 6)", """
            task(0, 0, 1) = 0
            task(6, 0, 1) = 1
            task(-1, 0, 1) = BEYOND
            task(7, 0, 1) = BEYOND
            task(MIN, 0, 1) = BEYOND
            task(MAX, 0, 1) = BEYOND
            taskOf(0, 0) = 0
            taskOf(1, 0) = 6
            """);
        says("Promise 3: name (0 to 7)", """
            task(0, 0, 1) = 0
            task(0, 7, 1) = 1
            task(0, -1, 1) = BEYOND
            task(0, 8, 1) = BEYOND
            task(0, MIN, 1) = BEYOND
            task(0, MAX, 1) = BEYOND
            taskOf(0, 1) = 0
            taskOf(1, 1) = 7
            """);
        says("Promise 3: FULL: 20 at most; BEYOND ahead of FULL", """
            19 x task(0, 0, 1)
            task(0, 0, 1) = 19
            task(0, 0, 1) = FULL
            task(6, 7, 999) = FULL
            task(7, 0, 1) = BEYOND
            task(0, 8, 1) = BEYOND
            task(0, 0, 0) = BEYOND
            strike(0)
            task(0, 0, 1) = FULL
            count(1) = 20
            """);
        says("Promise 4: what 0 to 5", """
            task(6, 5, 9)
            taskOf(0, 0) = 6
            taskOf(0, 5) = 0
            taskOf(0, -1) = BEYOND
            taskOf(0, 6) = BEYOND
            taskOf(0, MIN) = BEYOND
            taskOf(0, MAX) = BEYOND
            """);
        says("Promise 4: of a TASK that there is", """
            task(0, 0, 1)
            taskOf(0, 2) = 1
            taskOf(-1, 2) = BEYOND
            taskOf(1, 2) = BEYOND
            taskOf(MIN, 2) = BEYOND
            taskOf(MAX, 2) = BEYOND
            taskOf(1, 6) = BEYOND
            18 x task(0, 0, 1)
            taskOf(19, 2) = BEYOND
            task(0, 0, 7)
            taskOf(19, 2) = 7
            taskOf(20, 2) = BEYOND
            """);
        says("Promise 4: what it GROWS now (not held by 999; 0, if it is ENDED)", """
            read "debt 0 hours 999;feud 0 hours 999;tower 0 hours 999;feud 0 hours 1" = 4
            taskOf(0, 4) = 99
            taskOf(1, 4) = 100
            taskOf(2, 4) = 1
            taskOf(3, 4) = 1
            years(1)
            taskOf(0, 2) = 999
            taskOf(1, 2) = 999
            taskOf(2, 4) = 0
            years(1)
            taskOf(2, 4) = 1
            strike(1)
            strike(2)
            strike(3)
            taskOf(1, 4) = 0
            taskOf(2, 4) = 0
            taskOf(3, 4) = 0
            """);
        says("Promise 5: turn: kind (0 to 6), a TASK that there is", """
            task(3, 0, 9)
            turn(0, 0) = 3
            turn(0, 6) = 0
            turn(0, 6) = 6
            turn(0, -1) = BEYOND
            turn(0, 7) = BEYOND
            turn(0, MIN) = BEYOND
            turn(0, MAX) = BEYOND
            turn(-1, 0) = BEYOND
            turn(1, 0) = BEYOND
            turn(MAX, 7) = BEYOND
            taskOf(0, 0) = 6
            """);
        says("Promise 6: needs: another one that there is (-1: none), also itself", """
            3 x task(0, 0, 9)
            needs(1, 0) = -1
            needs(1, 2) = 0
            needs(1, 1) = BEYOND
            needs(1, 3) = BEYOND
            needs(1, -2) = BEYOND
            needs(1, MIN) = BEYOND
            needs(1, MAX) = BEYOND
            needs(-1, 0) = BEYOND
            needs(-1, -1) = BEYOND
            needs(3, 0) = BEYOND
            needs(3, 3) = BEYOND
            needs(3, -1) = BEYOND
            taskOf(1, 3) = 2
            needs(1, -1) = 2
            needs(1, -1) = -1
            needs(0, 0) = BEYOND
            needs(2, 2) = BEYOND
            """);
        says("Promise 6: a TASK that is ENDED can be NEEDED, and can NEED", """
            2 x task(0, 0, 9)
            strike(0)
            needs(1, 0) = -1
            needs(0, 1) = -1
            nameOf(0, 5) = 1
            rings() = 0
            """);
        says("Promise 7: strike: HOURS 0: how many they were", """
            task(0, 0, 999)
            task(0, 0, 1)
            strike(0) = 999
            strike(0) = 0
            strike(1) = 1
            strike(-1) = BEYOND
            strike(2) = BEYOND
            strike(MIN) = BEYOND
            strike(MAX) = BEYOND
            count(2) = 0
            """);
    }

    private static void waiting() {
        says("Terms: RING: TASKS that aren't ENDED, each of which waits for itself", """
            4 x task(0, 0, 1)
            rings() = 0
            needs(0, 1)
            rings() = 0
            needs(1, 0)
            rings() = 3
            needs(2, 0)
            needs(3, 2)
            rings() = 3
            taskOf(1, 5) = 1
            taskOf(2, 5) = 0
            strike(0)
            rings() = 0
            taskOf(0, 5) = 0
            taskOf(1, 5) = 0
            """);
        says("Promise 9: as a set (20 bits)", """
            20 x task(0, 0, 1)
            needs(18, 19)
            needs(19, 18)
            rings() = 0xc0000
            needs(0, 1)
            needs(1, 0)
            rings() = 0xc0003
            taskOf(19, 5) = 1
            taskOf(17, 5) = 0
            """);
        StringBuilder ring = new StringBuilder("20 x task(0, 0, 1)\n");
        for (int t = 0; t < 20; t++) {
            ring.append("needs(").append(t).append(", ").append((t + 1) % 20).append(")\n");
        }
        says("Promise 9: a RING of all 20", ring + """
            rings() = 0xfffff
            waits(0) = 0xfffff
            waits(19) = 0xfffff
            taskOf(19, 5) = 1
            strike(19)
            rings() = 0
            waits(19) = 0
            waits(0) = 0
            waits(18) = 0x3ffff
            """);
        StringBuilder chain = new StringBuilder("20 x task(0, 0, 1)\n");
        for (int t = 1; t < 20; t++) {
            chain.append("needs(").append(t).append(", ").append(t - 1).append(")\n");
        }
        says("Promise 10: again and again, not ENDED ones, nor by way of one, nor for one", chain + """
            waits(0) = 0xffffe
            waits(18) = 0x80000
            waits(19) = 0
            strike(10)
            waits(0) = 0x3fe
            waits(9) = 0
            waits(10) = 0
            waits(11) = 0xff000
            strike(19)
            waits(11) = 0x7f000
            """);
        says("Promise 10: it, too, in a RING; a TASK that there is", """
            3 x task(0, 0, 1)
            needs(0, 1)
            needs(2, 0)
            waits(1) = 5
            needs(1, 0)
            waits(1) = 7
            waits(2) = 0
            waits(-1) = BEYOND
            waits(3) = BEYOND
            waits(MIN) = BEYOND
            waits(MAX) = BEYOND
            """);
    }

    private static void persons() {
        says("Promise 11: HANDS (1 to 9)", """
            person(1) = 0
            person(9) = 1
            person(0) = BEYOND
            person(10) = BEYOND
            person(-1) = BEYOND
            person(MIN) = BEYOND
            person(MAX) = BEYOND
            of(0, 2) = 1
            of(1, 2) = 9
            """);
        says("Promise 11: FULL: 8 at most; BEYOND ahead of FULL", """
            7 x person(3)
            person(3) = 7
            person(3) = FULL
            person(0) = BEYOND
            person(10) = BEYOND
            year 60
            person(3) = FULL
            """);
        says("Promise 12: what 0 to 3, a PERSON that there is", """
            read "person hands 4 age 5 bears 6" = 1
            of(0, 0) = 6
            of(0, 3) = -1
            of(0, -1) = BEYOND
            of(0, 4) = BEYOND
            of(0, MIN) = BEYOND
            of(0, MAX) = BEYOND
            of(-1, 0) = BEYOND
            of(1, 0) = BEYOND
            of(1, 4) = BEYOND
            7 x person(1)
            of(7, 2) = 1
            of(8, 2) = BEYOND
            """);
        says("Promise 13: HANDS (what 2; 1 to 9)", """
            person(3)
            change(0, 2, 1) = 3
            change(0, 2, 9) = 1
            change(0, 2, 0) = BEYOND
            change(0, 2, 10) = BEYOND
            change(0, 2, MIN) = BEYOND
            change(0, 2, MAX) = BEYOND
            of(0, 2) = 9
            """);
        says("Promise 13: AGE (1; 0 to 39)", """
            person(3)
            change(0, 1, 39) = 0
            change(0, 1, 40) = BEYOND
            change(0, 1, -1) = BEYOND
            change(0, 1, MIN) = BEYOND
            change(0, 1, MAX) = BEYOND
            change(0, 1, 0) = 39
            of(0, 1) = 0
            """);
        says("Promise 13: no other what, a PERSON that there is", """
            person(3)
            change(0, 0, 1) = BEYOND
            change(0, 3, 1) = BEYOND
            change(0, -1, 1) = BEYOND
            change(0, MAX, 1) = BEYOND
            change(-1, 1, 1) = BEYOND
            change(1, 1, 1) = BEYOND
            change(1, 2, 1) = BEYOND
            change(1, 3, 99) = BEYOND
            """);
        says("Promise 13: also of one who is 40, who can bear a NAME again then", """
            read "person age 39 bears 2" = 1
            years(1)
            change(0, 2, 9) = 3
            change(0, 1, 40) = BEYOND
            take(0, 2) = STATE
            change(0, 1, 39) = 40
            take(0, 2) = -1
            """);
        says("Promise 14: HELPS another one that there is (-1: none), also itself", """
            8 x person(3)
            helps(3, 0) = -1
            helps(3, 7) = 0
            helps(3, 3) = BEYOND
            helps(3, 8) = BEYOND
            helps(3, -2) = BEYOND
            helps(3, MIN) = BEYOND
            helps(3, MAX) = BEYOND
            helps(-1, -1) = BEYOND
            helps(8, 0) = BEYOND
            helps(8, 8) = BEYOND
            helps(0, 0) = BEYOND
            helps(7, 7) = BEYOND
            of(3, 3) = 7
            helps(3, -1) = 7
            helps(3, -1) = -1
            """);
        says("Promise 17: n PERSONS (1 to 8), as many as there is room for, how many there are", """
            born(0) = BEYOND
            born(9) = BEYOND
            born(-1) = BEYOND
            born(MIN) = BEYOND
            born(MAX) = BEYOND
            born(1) = 1
            of(0, 2) = 6
            born(6) = 7
            born(8) = 8
            of(7, 2) = 3
            count(7) = -1661227463
            born(8) = 8
            born(1) = 8
            count(7) = -1661227463
            born(0) = BEYOND
            born(9) = BEYOND
            """);
        says("Promise 17: eight at once", """
            born(8) = 8
            of(0, 2) = 6
            of(1, 2) = 3
            of(2, 2) = 1
            of(3, 2) = 3
            of(4, 2) = 8
            of(5, 2) = 4
            of(6, 2) = 5
            of(7, 2) = 3
            of(7, 0) = -1
            of(7, 1) = 0
            of(7, 3) = -1
            count(7) = -1661227463
            """);
        says("Terms: DRAWS: z goes round as an int, z >>> 8 of one below 0 is above 0", """
            seed(2)
            born(1) = 1
            of(0, 2) = 9
            count(7) = -2087924461
            seed(-1770082073)
            born(1) = 2
            of(1, 2) = 1
            seed(MIN)
            born(1) = 3
            of(2, 2) = 9
            count(7) = -2147471303
            seed(MAX)
            born(1) = 4
            of(3, 2) = 6
            count(7) = 1043980748
            seed(0)
            born(1) = 5
            of(4, 2) = 4
            count(7) = 12345
            """);
    }

    private static void bearing() {
        says("Promise 15: a NAME (-1: none; 0 to 7), a PERSON that there is", """
            2 x person(3)
            take(0, 0) = -1
            take(0, 7) = 0
            take(0, 8) = BEYOND
            take(0, -2) = BEYOND
            take(0, MIN) = BEYOND
            take(0, MAX) = BEYOND
            take(-1, 0) = BEYOND
            take(-1, -1) = BEYOND
            take(2, 0) = BEYOND
            take(2, -1) = BEYOND
            of(0, 0) = 7
            take(0, -1) = 7
            take(0, -1) = -1
            """);
        says("Promise 15: STATE: another one bears it", """
            2 x person(3)
            take(0, 4) = -1
            take(0, 4) = 4
            take(1, 4) = STATE
            take(1, 5) = -1
            take(0, 5) = STATE
            take(2, 5) = BEYOND
            take(0, 6) = 4
            take(1, 4) = 5
            nameOf(4, 2) = 1
            nameOf(5, 2) = -1
            """);
        says("Promise 15: STATE: AGE is 40 (unless -1)", """
            2 x person(3)
            change(0, 1, 39)
            take(0, 3) = -1
            years(1)
            of(0, 1) = 40
            take(0, 3) = STATE
            take(0, 0) = STATE
            take(0, 8) = BEYOND
            take(0, -2) = BEYOND
            take(0, -1) = -1
            take(1, 3) = -1
            take(0, 3) = STATE
            """);
        says("Promise 16: two unlike PERSONS that there are (also one alike)", """
            8 x person(3)
            exchange(0, 7) = 1
            take(0, 1)
            exchange(7, 0) = 1
            of(0, 0) = -1
            of(7, 0) = 1
            exchange(0, 0) = BEYOND
            exchange(7, 7) = BEYOND
            exchange(0, 8) = BEYOND
            exchange(8, 0) = BEYOND
            exchange(8, 8) = BEYOND
            exchange(-1, 0) = BEYOND
            exchange(0, -1) = BEYOND
            exchange(MIN, MAX) = BEYOND
            take(0, 2)
            exchange(0, 7) = 1
            of(0, 0) = 1
            of(7, 0) = 2
            """);
        says("Promise 16: STATE: one of both is 40; BEYOND ahead of it", """
            read "person age 38 bears 1;person age 39;person age 39;person bears 2" = 4
            exchange(0, 1) = 1
            exchange(1, 0) = 1
            years(1)
            exchange(0, 3) = 1
            exchange(0, 1) = STATE
            exchange(1, 0) = STATE
            exchange(1, 2) = STATE
            exchange(1, 1) = BEYOND
            exchange(1, 4) = BEYOND
            exchange(-1, 1) = BEYOND
            of(0, 0) = 2
            of(3, 0) = 1
            """);
    }

    private static void goingOn() {
        says("Promise 18: n YEARS (1 to 60)", """
            years(1) = 0
            years(60) = 0
            years(0) = BEYOND
            years(61) = BEYOND
            years(-1) = BEYOND
            years(MIN) = BEYOND
            years(MAX) = BEYOND
            count(0) = 61
            """);
        says("Promise 18: STATE: YEAR would be above 999; BEYOND ahead of it", """
            year 939
            image()
            years(60) = 0
            count(0) = 999
            years(1) = STATE
            years(60) = STATE
            years(0) = BEYOND
            years(61) = BEYOND
            years(MAX) = BEYOND
            undo() = 939
            years(1) = 0
            years(60) = STATE
            years(59) = 0
            count(0) = 999
            """);
        says("Promise 18: how many TASKS are ENDED by them: those ENDED before, none; new ones, too", """
            read "task 0 hours 3;task 0 hours 3;task 0 hours 4;person hands 3 age 38 bears 0;person hands 9 age 37" = 5
            strike(0)
            helps(1, 0)
            years(1) = 2
            taskOf(1, 2) = 0
            taskOf(2, 2) = 0
            """);
        says("Promise 18: a TASK that was left behind is ENDED by them, too", """
            read "task 0 hours 4;person age 39 bears 0;person hands 9 age 38" = 3
            years(1) = 0
            count(1) = 2
            take(1, 0) = -1
            years(1) = 1
            count(1) = 3
            count(2) = 2
            """);
        says("Promise 19: AHEAD n YEARS (0 to 100)", """
            read "debt 0 hours 10;person age 7 hands 1" = fault 29
            read "debt 0 hours 10;person hands 1 age 7 bears 1" = 2
            ahead(0, 1) = 10
            ahead(1, 1) = 11
            ahead(-1, 1) = BEYOND
            ahead(101, 1) = BEYOND
            ahead(MIN, 1) = BEYOND
            ahead(MAX, 1) = BEYOND
            ahead(100, 1) = 999
            ahead(0, 4) = 0
            ahead(32, 4) = 0
            ahead(33, 4) = 1
            ahead(100, 4) = 1
            """);
        says("Promise 19: what 0 to 4", """
            read "task 7 hours 10;task 0 hours 1;task 0 hours 1" = 3
            strike(2)
            ahead(0, 0) = 2
            ahead(0, 1) = 11
            ahead(0, 2) = 129
            ahead(0, 3) = 0
            ahead(0, 4) = 0
            ahead(0, -1) = BEYOND
            ahead(0, 5) = BEYOND
            ahead(0, MIN) = BEYOND
            ahead(0, MAX) = BEYOND
            """);
        says("Promise 19: STATE: YEAR would be above 999; BEYOND ahead of it", """
            year 899
            ahead(100, 0) = 0
            years(1)
            ahead(100, 0) = STATE
            ahead(99, 0) = 0
            ahead(101, 0) = BEYOND
            ahead(100, 5) = BEYOND
            ahead(-1, 0) = BEYOND
            year 999
            ahead(0, 0) = 0
            ahead(1, 0) = STATE
            ahead(1, -1) = BEYOND
            """);
        says("Promise 20: behind how many YEARS a NAME is SHUT first: 0, 1, 40 (then nobody bears it), NONE", """
            read "task 0 hours 33;task 1 hours 34;task 2 hours 1;person hands 1 bears 0;person hands 1 bears 1" = 5
            read "person hands 1 age 7 bears 2" = 1
            shut(0) = 40
            shut(1) = NONE
            shut(2) = 1
            shut(3) = 0
            shut(7) = 0
            strike(0)
            shut(0) = 0
            """);
        says("Promise 20: BEYOND, STATE: YEAR is above 899, NONE", """
            task(0, 0, 1)
            shut(-1) = BEYOND
            shut(8) = BEYOND
            shut(MIN) = BEYOND
            shut(MAX) = BEYOND
            year 899
            shut(0) = NONE
            shut(1) = 0
            years(1)
            shut(0) = STATE
            shut(1) = STATE
            shut(7) = STATE
            shut(8) = BEYOND
            shut(-1) = BEYOND
            year 999
            shut(1) = STATE
            """);
        says("Promise 21: behind how many YEARS a TASK is ENDED first: 0, 1, 40, NONE", """
            read "task 0 hours 33;task 1 hours 34;task 2 hours 1;person hands 1 bears 0;person hands 1 bears 1" = 5
            read "person hands 1 age 7 bears 2" = 1
            ends(0) = 40
            ends(1) = NONE
            ends(2) = 1
            strike(1)
            ends(1) = 0
            """);
        says("Promise 21: BEYOND, STATE likewise, NONE", """
            2 x task(0, 0, 1)
            strike(1)
            ends(-1) = BEYOND
            ends(2) = BEYOND
            ends(MIN) = BEYOND
            ends(MAX) = BEYOND
            year 899
            ends(0) = NONE
            ends(1) = 0
            years(1)
            ends(0) = STATE
            ends(1) = STATE
            ends(2) = BEYOND
            ends(-1) = BEYOND
            """);
    }

    private static void choosing() {
        says("Promise 22: behind 40 less AGE YEARS at most (that behind which AGE is 40 counts)", """
            read "task 0 hours 3;task 1 hours 4;task 2 hours 99;task 3 hours 100;person age 39;person age 38;person" = 7
            choose(0) = 0
            worth(0, 9)
            choose(0) = 0
            choose(1) = 1
            choose(2) = 1
            worth(2, 11)
            worth(3, 12)
            choose(2) = 2
            choose(1) = 1
            strike(0)
            choose(0) = NONE
            """);
        says("Promise 22: OPEN, not borne", """
            read "name 0 worth 99;name 1 worth 99;task 1 hours 1;task 2 hours 1;person bears 1;person age 7" = 6
            choose(1) = 2
            take(0, -1)
            choose(1) = 1
            strike(0)
            choose(1) = 2
            strike(1)
            choose(1) = NONE
            """);
        says("Promise 22: most WORTH: of NAME 0, of NAME 7", """
            read "name 0 worth 12;name 6 worth 11;task 0 hours 3;task 6 hours 3;task 7 hours 3;person age 7" = 6
            choose(0) = 0
            worth(7, 13)
            choose(0) = 7
            worth(7, 12)
            choose(0) = 0
            """);
        says("Promise 22: WORTH 0 is a WORTH", """
            read "name 5 worth 0;task 5 hours 3;person age 7" = 3
            choose(0) = 5
            """);
        says("Promise 22: BEYOND; STATE: this one bears one, or is 40; NONE", """
            read "task 0 hours 1;person bears 0;person age 38;person age 39;person bears 7" = 5
            choose(4) = BEYOND
            choose(3) = STATE
            choose(-1) = BEYOND
            choose(MIN) = BEYOND
            choose(MAX) = BEYOND
            choose(0) = STATE
            choose(1) = NONE
            years(1)
            choose(1) = NONE
            choose(2) = STATE
            choose(4) = BEYOND
            """);
        says("Promise 22: STATE: YEAR is above 959", """
            year 959
            task(0, 0, 1)
            2 x person(3)
            choose(0) = 0
            change(1, 1, 39)
            choose(1) = 0
            years(1)
            choose(0) = STATE
            choose(1) = STATE
            choose(2) = BEYOND
            strike(0)
            choose(0) = STATE
            year 999
            choose(0) = STATE
            """);
        says("Promise 23: the least HANDS (1 to 9)", """
            read "task 0 hours 9;task 1 hours 10;task 2 hours 1;person age 39 bears 0;person age 39 bears 1" = 5
            read "person age 39 bears 2;person bears 1" = fault 35
            handsFor(0) = 9
            handsFor(1) = NONE
            person(3)
            take(2, 2)
            handsFor(2) = 1
            change(2, 1, 39)
            handsFor(2) = 1
            change(1, 1, 38)
            handsFor(1) = 5
            """);
        says("Promise 23: behind 40 less AGE YEARS: from AGE 7 on", """
            read "task 0 hours 297;task 1 hours 298;task 2 hours 33;person bears 0;person bears 1;person bears 2" = 6
            handsFor(0) = 9
            handsFor(1) = NONE
            handsFor(2) = 1
            change(0, 1, 7)
            handsFor(0) = 9
            change(0, 1, 8)
            handsFor(0) = NONE
            """);
        says("Promise 23: the NAME of a PERSON: PERSON 0 bears NAME 1, PERSON 1 bears NAME 0", """
            read "task 1 hours 99;task 0 hours 33;person bears 1;person bears 0" = 4
            handsFor(0) = 3
            handsFor(1) = 1
            change(0, 2, 9)
            change(1, 2, 9)
            handsFor(0) = 3
            handsFor(1) = 1
            """);
        says("Promise 23: SHUT now, too: 1", """
            read "task 0 hours 1;person hands 9 bears 0;person hands 9 age 39 bears 1" = 3
            handsFor(1) = 1
            strike(0)
            handsFor(0) = 1
            """);
        says("Promise 23: BEYOND; STATE: this one bears none, or YEAR is above 959; NONE", """
            read "task 0 hours 999;person bears 0;person;person age 39 bears 1" = 4
            handsFor(-1) = BEYOND
            handsFor(3) = BEYOND
            handsFor(MIN) = BEYOND
            handsFor(MAX) = BEYOND
            handsFor(0) = NONE
            handsFor(1) = STATE
            years(1)
            handsFor(2) = STATE
            year 959
            change(0, 1, 0)
            take(0, 0)
            handsFor(0) = NONE
            strike(0)
            handsFor(0) = 1
            years(1)
            handsFor(0) = STATE
            handsFor(1) = STATE
            handsFor(3) = BEYOND
            """);
    }

    private static void giving() {
        says("Promise 24: n YEARS (1 to 40)", """
            read "task 0 hours 99;task 1 hours 1;person" = 3
            strike(1)
            most(1) = 10
            most(39) = 10
            most(40) = 20
            most(0) = BEYOND
            most(41) = BEYOND
            most(-1) = BEYOND
            most(MIN) = BEYOND
            most(MAX) = BEYOND
            """);
        says("Promise 24: STATE: YEAR would be above 999; BEYOND ahead of it, SIZE behind", """
            year 959
            5 x person(3)
            most(40) = SIZE
            take(4, 0)
            most(40) = 0
            years(1)
            most(39) = 0
            most(40) = STATE
            most(41) = BEYOND
            most(0) = BEYOND
            take(4, -1)
            most(39) = SIZE
            most(40) = STATE
            most(41) = BEYOND
            year 999
            most(1) = STATE
            give(1) = STATE
            """);
        says("Promise 24: SIZE: more than 4 PERSONS bear none and are below 40", """
            4 x person(9)
            most(40) = 0
            person(9)
            most(1) = SIZE
            most(40) = SIZE
            most(0) = BEYOND
            change(4, 1, 39)
            most(1) = SIZE
            take(0, 7)
            most(1) = 0
            take(0, -1)
            most(1) = SIZE
            years(1)
            of(4, 1) = 40
            most(1) = 0
            3 x person(9)
            most(1) = SIZE
            take(1, 0)
            take(2, 1)
            most(1) = SIZE
            take(3, 2)
            most(1) = 0
            """);
        says("Promise 25: BEYOND: n (1 to 40); STATE; SIZE likewise", """
            5 x person(9)
            give(1) = SIZE
            give(40) = SIZE
            give(0) = BEYOND
            give(41) = BEYOND
            give(MIN) = BEYOND
            give(MAX) = BEYOND
            year 959
            change(0, 1, 0)
            change(1, 1, 0)
            change(2, 1, 0)
            change(3, 1, 0)
            give(40) = 0
            change(4, 1, 0)
            give(40) = SIZE
            years(1)
            give(40) = STATE
            give(39) = SIZE
            give(41) = BEYOND
            """);
        says("Promise 25: four PERSONS, eight NAMES: of several the first, by numbers of PERSONS", """
            read "task0hours9;task1hours9;task2hours9;task3hours9;task4hours9;task5hours9;task6hours9;task7hours9" = 8
            read "person hands 9 age 7;person hands 9 age 7;person hands 9 age 7;person hands 9 age 7" = 4
            most(1) = 40
            give(1) = 4
            of(0, 0) = 0
            of(1, 0) = 1
            of(2, 0) = 2
            of(3, 0) = 3
            give(1) = 0
            """);
        says("Promise 25: the NAMES of most WORTH are the last ones", """
            read "task0hours9;task1hours9;task2hours9;task3hours9;task4hours9;task5hours9;task6hours9;task7hours9" = 8
            read "name4worth99;name5worth99;name6worth99;name7worth99" = 4
            read "person hands 9 age 7;person hands 9 age 7;person hands 9 age 7;person hands 9 age 7" = 4
            most(1) = 396
            give(40) = 4
            of(0, 0) = 4
            of(1, 0) = 5
            of(2, 0) = 6
            of(3, 0) = 7
            """);
        says("Promise 25: none ahead of 0: who can end nothing, and who isn't needed, gets none", """
            read "task 0 hours 3;task 1 hours 50;person age 7;person age 7;person age 6" = 5
            give(1) = 1
            of(0, 0) = -1
            of(1, 0) = 0
            of(2, 0) = -1
            """);
        says("Promise 25: more PERSONS than NAMES, no NAME, no PERSON", """
            give(1) = 0
            read "task 7 hours 3;person age 7;person age 7;person age 7;person age 7" = 5
            give(1) = 1
            of(3, 0) = 7
            of(0, 0) = -1
            years(1)
            give(1) = 0
            most(1) = 10
            """);
        says("Terms: GIVING: to each one at most, a NAME to one at most", """
            read "task 0 hours 6;task 1 hours 3;person age 7;person age 7" = 4
            most(1) = 10
            most(2) = 20
            give(1) = 1
            of(0, 0) = -1
            of(1, 0) = 1
            """);
        says("Terms: GIVING: two can't bear one NAME, though it would be ended so", """
            read "letter 0 hours 1;task 0 hours 5;person age 7;person age 7" = 4
            most(2) = 0
            give(2) = 0
            most(3) = 10
            give(3) = 1
            of(0, 0) = -1
            of(1, 0) = 0
            """);
        says("Promise 24: what is borne counts, too, though it isn't given", """
            read "name 0 worth 50;task 0 hours 3;task 1 hours 3;task 7 hours 6;person age 7 bears 0;person age 7" = 6
            most(1) = 60
            take(0, 7)
            most(1) = 50
            most(2) = 60
            take(0, -1)
            most(1) = 60
            """);
        says("Promise 25: a NAME that can't be ended is given, if a FEUD NEEDS it to be borne", """
            read "task 0 hours 1;task 0 hours 999;feud 7 hours 9 needs 0;person;person hands 9 age 7" = 5
            strike(0)
            most(1) = 10
            worth(7, 1)
            most(1) = 1
            give(1) = 2
            of(0, 0) = 0
            of(1, 0) = 7
            """);
        says("Promise 24: by PERSON 0, who HELPS with half of HANDS 1: it ends a PROMISE of 1 HOUR", """
            read "promise 7 hours 1;person hands 1 age 7 bears 0;person" = 3
            most(1) = 0
            helps(0, 1)
            most(1) = 10
            turn(0, 4)
            most(1) = 0
            change(0, 2, 2)
            most(1) = 10
            give(1) = 1
            of(1, 0) = 7
            """);
        says("Promise 24: of a full book: 20 TASKS, 8 PERSONS", """
            20 x task(0, 7, 9)
            8 x person(9)
            read "name 7 worth 99" = 1
            take(0, 0)
            take(1, 1)
            take(2, 2)
            most(40) = SIZE
            take(3, 3)
            most(26) = 0
            most(27) = 99
            -- the bearer ends one a year, the three helpers together the next one
            helps(0, 7)
            helps(2, 7)
            helps(3, 7)
            most(16) = 0
            most(17) = 99
            most(40) = 99
            choose(7) = 7
            choose(4) = 7
            handsFor(0) = 1
            lives(7, 9) = 1
            best(60) = 0
            whom(1, 60) = -1
            shut(7) = NONE
            ends(19) = NONE
            rings() = 0
            give(27) = 1
            of(7, 0) = 7
            shut(7) = 17
            ends(19) = 17
            whom(1, 13) = 7
            years(60) = 20
            """);
        says("Promise 25: of several the first: what waits for a RING is given to nobody", """
            read "task 0 hours 3;task 1 hours 3;task 2 hours 1;task 2 hours 1 needs 2;person age 7;person age 7" = 6
            needs(2, 3)
            needs(0, 2)
            needs(1, 2)
            most(40) = 0
            give(40) = 0
            needs(1, -1)
            give(1) = 1
            of(0, 0) = -1
            of(1, 0) = 1
            """);
        says("Promise 24: it comes with all who help, not with one HOUR more", """
            read "task 0 hours 11;promise 1 hours 25;person age 7;person hands 9 age 7 bears 2;person hands 9 age 7 bears 3" = 5
            helps(1, 0)
            helps(2, 0)
            most(1) = 10
            give(1) = 1
            of(0, 0) = 0
            take(0, -1)
            change(0, 2, 2)
            most(1) = 0
            most(2) = 10
            give(1) = 0
            strike(0)
            change(1, 2, 8)
            most(1) = 10
            change(0, 2, 3)
            most(1) = 20
            give(1) = 1
            of(0, 0) = 1
            """);
        says("Terms: GIVING: PERSONS below 40, NAMES that are OPEN and not borne", """
            read "task 0 hours 3;task 1 hours 3;task 2 hours 3;person age 38;person age 39;person bears 2" = 6
            strike(1)
            give(1) = 1
            of(0, 0) = -1
            of(1, 0) = 0
            of(2, 0) = 2
            take(1, -1)
            years(1)
            of(1, 1) = 40
            most(1) = 20
            give(1) = 1
            of(0, 0) = 0
            of(1, 0) = -1
            """);
    }

    private static void livesAndHelp() {
        says("Promise 26: HANDS as told (1 to 9), a NAME (0 to 7)", """
            task(0, 0, 297)
            task(0, 7, 1)
            lives(0, 9) = 1
            lives(7, 1) = 1
            lives(0, 0) = BEYOND
            lives(0, 10) = BEYOND
            lives(0, MIN) = BEYOND
            lives(0, MAX) = BEYOND
            lives(-1, 1) = BEYOND
            lives(8, 1) = BEYOND
            lives(MIN, 1) = BEYOND
            lives(MAX, 1) = BEYOND
            """);
        says("Promise 26: BEYOND, STATE: it isn't OPEN", """
            task(0, 0, 1)
            lives(0, 1) = 1
            lives(1, 1) = STATE
            lives(1, 10) = BEYOND
            lives(1, 0) = BEYOND
            strike(0)
            lives(0, 1) = STATE
            lives(0, 0) = BEYOND
            """);
        says("Promise 26: 1 to 9; NONE: 9 aren't enough (each who leaves it OPEN leaves 5 HOURS more)", """
            task(0, 0, 33)
            task(0, 1, 34)
            task(0, 2, 257)
            task(0, 3, 258)
            lives(0, 1) = 1
            lives(1, 1) = 2
            lives(2, 1) = 9
            lives(3, 1) = NONE
            lives(3, 2) = 5
            """);
        says("Promise 26: with 20 TASKS none comes more", """
            task(0, 0, 297)
            19 x task(0, 1, 1)
            lives(0, 1) = 9
            turn(0, 1)
            lives(0, 1) = NONE
            """);
        says("Promise 26: YEARS go on, above 999, too", """
            year 999
            task(0, 0, 257)
            task(1, 1, 33)
            lives(0, 1) = 9
            lives(1, 2) = 1
            lives(1, 1) = 3
            """);
        says("Promise 26: each from AGE 0 on: from the 8th YEAR to the 40th, of which every other counts for a WALL", """
            read "wall 0 hours 16;wall 1 hours 17;wall 2 hours 18;person hands 9 age 7 bears 0" = 4
            lives(0, 1) = 1
            lives(1, 1) = 2
            take(0, -1)
            years(1)
            lives(1, 1) = 1
            lives(2, 1) = 2
            """);
        says("Promise 26: nobody else there (other NAMES are borne by nobody)", """
            read "task 0 hours 34;feud 2 hours 1;task 1 hours 9;person hands 9 age 7;person age 7 bears 1" = 5
            helps(0, 1)
            strike(2)
            lives(0, 1) = 2
            lives(2, 9) = 1
            needs(1, 2)
            lives(2, 9) = NONE
            needs(1, 0)
            lives(2, 9) = NONE
            """);
        says("Promise 27: n YEARS (1 to 60)", """
            read "task 0 hours 20;debt 1 hours 19" = 2
            best(1) = 0
            best(2) = 1
            best(60) = 1
            best(0) = BEYOND
            best(61) = BEYOND
            best(-1) = BEYOND
            best(MIN) = BEYOND
            best(MAX) = BEYOND
            """);
        says("Promise 27: BEYOND, STATE, NONE: all are ENDED", """
            best(60) = NONE
            20 x task(0, 0, 1)
            best(60) = 0
            strike(0)
            best(60) = 1
            year 939
            best(60) = 1
            years(1)
            best(60) = STATE
            best(59) = 1
            best(61) = BEYOND
            best(0) = BEYOND
            """);
        says("Promise 27: NONE is asked behind STATE", """
            task(0, 0, 1)
            strike(0)
            best(1) = NONE
            year 940
            best(60) = STATE
            best(59) = NONE
            best(61) = BEYOND
            year 999
            best(1) = STATE
            """);
        says("Promise 27: struck: ENDED for those that NEED it", """
            read "task 0 hours 1;task 1 hours 20 needs 0;task 2 hours 9;person hands 9 age 7 bears 1" = 4
            best(1) = 1
            best(2) = 1
            best(3) = 0
            """);
        says("Promise 27: the last TASK there can be", """
            19 x task(0, 0, 1)
            task(0, 0, 2)
            best(1) = 19
            """);
        says("Promise 28: n YEARS (1 to 60), a PERSON that there is", """
            read "task 0 hours 500;person bears 0;person hands 9 age 6" = 3
            whom(1, 1) = -1
            whom(1, 2) = 0
            whom(1, 60) = 0
            whom(0, 60) = -1
            whom(1, 0) = BEYOND
            whom(1, 61) = BEYOND
            whom(1, MIN) = BEYOND
            whom(1, MAX) = BEYOND
            whom(-1, 1) = BEYOND
            whom(2, 1) = BEYOND
            whom(2, 0) = BEYOND
            """);
        says("Promise 28: STATE: YEAR would be above 999; BEYOND ahead of it", """
            year 939
            person(3)
            whom(0, 60) = -1
            years(1)
            whom(0, 60) = STATE
            whom(0, 59) = -1
            whom(0, 61) = BEYOND
            whom(1, 60) = BEYOND
            whom(-1, 60) = BEYOND
            year 999
            whom(0, 1) = STATE
            """);
        says("Promise 28: -1: none, ahead of 0; of several the least; PERSON 7, too", """
            read "task 0 hours 50;task 1 hours 50;person bears 0;person bears 1;person hands 2 age 7" = 5
            whom(2, 1) = 0
            take(0, -1)
            whom(2, 1) = 1
            strike(1)
            helps(2, 1)
            whom(2, 1) = -1
            of(2, 3) = 1
            5 x person(3)
            take(7, 0)
            whom(2, 1) = 7
            """);
    }

    private static void tape() {
        says("Promise 30: n 1 to 4", """
            feed(112, 1) = 1
            feed(0x65727365, 0) = BEYOND
            feed(0x65727365, 5) = BEYOND
            feed(0x65727365, -1) = BEYOND
            feed(0x65727365, MIN) = BEYOND
            feed(0x65727365, MAX) = BEYOND
            feed(0x6572736f, 4) = 5
            feed(110, 1) = 6
            text() = 1
            """);
        says("Promise 30: the n lowest bytes of a number, the highest of these first", """
            feed(0x70657273, 4) = 4
            feed(0x7fff6f6e, 2) = 6
            text() = 1
            feed(0x7f706572, 3) = 3
            feed(0x7f7f7f73, 1) = 4
            feed(-37010, 2) = 6
            text() = 1
            count(3) = 2
            """);
        says("Promise 30: a number below 0: its bytes may be above 127", """
            feed(-1, 1) = 1
            text() = fault 0
            feed(-1, 4) = 4
            text() = fault 0
            feed(MIN, 4) = 4
            text() = fault 0
            feed "person"
            feed(-128, 1) = 7
            text() = fault 6
            """);
        says("Promise 30: FULL: bytes, at most 120", """
            29 x feed(0x20202020, 4)
            feed(0x202020, 3) = 119
            feed(0x2020, 2) = FULL
            feed(0x20202020, 4) = FULL
            feed(0x2020, 5) = BEYOND
            feed(0x2020, 0) = BEYOND
            feed(0x20, 1) = 120
            feed(0x20, 1) = FULL
            feed(0x20, 4) = FULL
            feed(0x20, 5) = BEYOND
            feed(0x20, 0) = BEYOND
            count(6) = 120
            text() = fault 120
            feed(0x20, 1) = 1
            """);
        says("Promise 30: what is refused puts no byte on THE TAPE", """
            feed "                                                                                                                person"
            count(6) = 118
            feed(0x20202020, 3) = FULL
            feed(0x20202020, 2) = 120
            text() = 1
            """);
        says("Promise 31: THE TAPE is empty: how many it had", """
            wipe() = 0
            feed(32, 1)
            wipe() = 1
            wipe() = 0
            30 x feed(0x20202020, 4)
            wipe() = 120
            count(6) = 0
            text() = fault 0
            """);
        says("Promise 32: THE TAPE is empty then, with a FAULT, too", """
            read "person" = 1
            count(6) = 0
            read "persons" = fault 0
            count(6) = 0
            wipe() = 0
            """);
        says("Promise 32: with a FAULT: nothing changes, also of the items ahead of it", """
            seed(7)
            image()
            hold(0, -1)
            read "name 0 worth 1;task 0 hours 3;person bears 0;name 0 worth 100" = fault 58
            read "task 0 hours 3;task 0 hours 3 needs 0;x" = fault 38
            count(1) = 0
            count(3) = 0
            nameOf(0, 0) = 10
            status(-1) = 0
            """);
    }

    private static void tokens() {
        says("Terms: how many bytes there are (blanks, too) if it ends too early", """
            text() = fault 0
            read " " = fault 1
            read "   " = fault 3
            read "name" = fault 4
            read "name " = fault 5
            read "name 1" = fault 6
            read "name 1 worth" = fault 12
            read "task" = fault 4
            read "task 1" = fault 6
            read "task 1 hours  " = fault 14
            read "task 1 hours 1 needs" = fault 20
            read "person hands" = fault 12
            read "person age" = fault 10
            read "person hands 1 age " = fault 19
            read "person bears" = fault 12
            read "person;" = fault 7
            read "person ;  " = fault 10
            """);
        says("Terms: SIGN ; only between ITEMS", """
            read ";" = fault 0
            read ";person" = fault 0
            read "person;;person" = fault 7
            read "person ; ; person" = fault 9
            read "person;person;" = fault 14
            read "name;" = fault 4
            read "name 1;worth 1" = fault 6
            read "person hands;9" = fault 12
            """);
        says("Terms: blanks may stand between", """
            read "  person  hands  2  ;  name  1  worth  3  " = 2
            read "personhands2" = fault 0
            read "person hands2age3bears4;name5worth6" = 2
            of(1, 2) = 2
            of(1, 1) = 3
            of(1, 0) = 4
            nameOf(5, 0) = 6
            read "per son" = fault 0
            read "name 1 wor th 3" = fault 7
            read "name 1 worth 3 3" = fault 15
            """);
        says("Terms: TOKENS, each as long as can be", """
            read "persons" = fault 0
            read "persona" = fault 0
            read "personz" = fault 0
            read "aperson" = fault 0
            read "zperson" = fault 0
            read "bame 1 worth 1" = fault 0
            read "namf 1 worth 1" = fault 0
            read "personperson" = fault 0
            read "nam 1 worth 1" = fault 0
            read "name 11 worth 1" = fault 5
            read "name 1 worthy 1" = fault 7
            read "name 1 worth 999" = fault 13
            read "person hands 10" = fault 13
            read "person age 400" = fault 11
            read "task 1 hours 9990" = fault 13
            """);
        says("Terms: a byte that begins no TOKEN: next to a and z, 0 and 9, ; and the blank", """
            read "`" = fault 0
            read "{" = fault 0
            read "person`" = fault 6
            read "person{" = fault 6
            read "person hands 1/" = fault 14
            read "person hands 1:" = fault 14
            read "person hands /" = fault 13
            read "person hands :" = fault 13
            read "person:person" = fault 6
            read "person<person" = fault 6
            read "person!" = fault 6
            read "Person" = fault 0
            read "persoN" = fault 0
            read "person Z" = fault 7
            read "person hands -1" = fault 13
            read "person hands +1" = fault 13
            read "person\thands 1" = fault 6
            """);
        says("Terms: a byte that begins no TOKEN: 0, 31, 128 and 255", """
            feed "person"
            feed(0, 1) = 7
            text() = fault 6
            feed(0, 1) = 1
            text() = fault 0
            feed(31, 1) = 1
            text() = fault 0
            feed(128, 1) = 1
            text() = fault 0
            feed "person "
            feed(255, 1) = 8
            text() = fault 7
            feed "person"
            feed(10, 1) = 7
            text() = fault 6
            """);
        says("Terms: NUMBERS (rows of digits, 9999 at most)", """
            read "name 1 worth 00000000000000000000000000000000000000000000000000000000000000000000000000000000000000000000000000000000099" = 1
            nameOf(1, 0) = 99
            read "name 0007 worth 0" = 1
            read "task 0 hours 00999" = 1
            read "task 0 hours 9999" = fault 13
            read "task 0 hours 10000" = fault 13
            read "name 1 worth 65536" = fault 13
            read "task 0 hours 4294967297" = fault 13
            read "name 4294967296 worth 1" = fault 5
            read "name 1 worth 18446744073709551616" = fault 13
            read "person hands 4294967299" = fault 13
            read "person age 2147483648" = fault 11
            read "task 0 hours 1 needs 4294967296" = fault 21
            read "person bears 4294967296" = fault 13
            """);
    }

    private static void items() {
        says("Terms: name, a NUMBER (0 to 7), worth, a NUMBER (0 to 99)", """
            read "name 0 worth 0" = 1
            read "name 7 worth 99" = 1
            nameOf(0, 0) = 0
            nameOf(7, 0) = 99
            read "name 8 worth 1" = fault 5
            read "name 1 worth 100" = fault 13
            read "name worth 1" = fault 5
            read "name 1 1" = fault 7
            read "name 1 hours 1" = fault 7
            read "name 1 worth worth" = fault 13
            read "name 1 worth 1 needs 0" = fault 15
            """);
        says("Terms: task, a NUMBER (0 to 7: NAME), hours, a NUMBER (1 to 999)", """
            read "task 0 hours 1" = 1
            read "tower 7 hours 999" = 1
            taskOf(0, 1) = 0
            taskOf(0, 2) = 1
            taskOf(1, 1) = 7
            taskOf(1, 2) = 999
            taskOf(1, 0) = 6
            read "task 8 hours 1" = fault 5
            read "tower 8 hours 1" = fault 6
            read "promise 1 hours 0" = fault 16
            read "task 1 hours 0" = fault 13
            read "task 1 hours 1000" = fault 13
            read "task hours 1" = fault 5
            read "task 1 worth 1" = fault 7
            read "task 1 hours x" = fault 13
            """);
        says("Terms: perhaps needs and a NUMBER (a TASK that there is ahead of it)", """
            read "task 0 hours 1 needs 0" = fault 21
            read "task 0 hours 1;task 0 hours 1 needs 1" = fault 36
            read "task 0 hours 1;task 0 hours 1 needs 0" = 2
            taskOf(1, 3) = 0
            read "task 0 hours 1 needs 2" = fault 21
            read "task 0 hours 1 needs 1" = 1
            taskOf(2, 3) = 1
            read "task 0 hours 1 needs 3" = fault 21
            read "task 0 hours 1 needs needs" = fault 21
            read "task 0 hours 1 needs 0 0" = fault 23
            read "task 0 hours 1 bears 0" = fault 15
            strike(0)
            read "task 0 hours 1 needs 0" = 1
            """);
        says("Terms: person, perhaps hands and a NUMBER (1 to 9)", """
            read "person hands 1" = 1
            read "person hands 9" = 1
            of(0, 2) = 1
            of(1, 2) = 9
            read "person hands 0" = fault 13
            read "person hands 10" = fault 13
            read "person hands age 1" = fault 13
            read "person hands 1 hands 1" = fault 15
            read "person 1" = fault 7
            """);
        says("Terms: perhaps age and a NUMBER (0 to 39)", """
            read "person age 0" = 1
            read "person hands 2 age 39" = 1
            of(0, 1) = 0
            of(1, 1) = 39
            read "person age 40" = fault 11
            read "person age 1 hands 1" = fault 13
            read "person age 1 age 1" = fault 13
            """);
        says("Terms: perhaps bears and a NUMBER (0 to 7: a NAME that nobody bears)", """
            read "person bears 0" = 1
            read "person bears 7" = 1
            of(0, 0) = 0
            of(1, 0) = 7
            read "person bears 8" = fault 13
            read "person bears 0" = fault 13
            read "person bears 7" = fault 13
            read "person bears 1;person hands 2 age 3 bears 1" = fault 42
            read "person bears 1 age 2" = fault 15
            read "person bears 1 hands 2" = fault 15
            take(0, -1)
            read "person bears 0" = 1
            of(2, 0) = 0
            """);
        says("Terms: another WORD", """
            read "x" = fault 0
            read "worth 1" = fault 0
            read "hours 1" = fault 0
            read "bears 1" = fault 0
            read "person x" = fault 7
            read "person needs 0" = fault 7
            read "name 1 worth 1;x" = fault 15
            read "name 1 worth 1 name" = fault 15
            """);
        says("Terms: item by item: the last that is told counts", """
            read "name 1 worth 1;name 1 worth 2;name 1 worth 3" = 3
            nameOf(1, 0) = 3
            """);
    }

    private static void fullTexts() {
        says("Terms: a TEXT of all 120 bytes of THE TAPE", """
            read "name0worth1;name1worth2;name2worth3;name3worth4;name4worth5;name5worth6;name6worth7;name7worth8;name0worth9;name1worth99" = 10
            count(6) = 0
            nameOf(0, 0) = 9
            nameOf(1, 0) = 99
            nameOf(7, 0) = 8
            read "name0worth1;name1worth2;name2worth3;name3worth4;name4worth5;name5worth6;name6worth7;name7worth8;name0worth9;name1worth9;" = fault 120
            read "name0worth1;name1worth2;name2worth3;name3worth4;name4worth5;name5worth6;name6worth7;name7worth8;name0worth9;name1worth9;" = fault 120
            nameOf(1, 0) = 99
            """);
        says("Terms: the WORD of a 21st TASK: its own", """
            read "task0hours1;task0hours1;task0hours1;task0hours1;task0hours1;task0hours1;task0hours1;task0hours1;task0hours1;task0hours1" = 10
            read "task0hours1;task0hours1;task0hours1;task0hours1;task0hours1;task0hours1;task0hours1;task0hours1;task0hours1" = 9
            count(1) = 19
            read "task0hours1; task0hours1" = fault 13
            read "task0hours1;tower 9" = fault 12
            count(1) = 19
            read "task 0 hours 1 needs 19" = fault 21
            read "task 0 hours 1 needs 18" = 1
            count(1) = 20
            read "task 0 hours 1" = fault 0
            read "  wall" = fault 2
            read "name 1 worth 2;debt 9" = fault 15
            read "name 1 worth 2" = 1
            read "person" = 1
            """);
        says("Terms: the WORD of a 9th PERSON: its own", """
            read "person;person;person;person;person;person;person;person;person" = fault 56
            count(3) = 0
            read "person;person;person;person;person;person;person" = 7
            read "person; person 5" = fault 8
            read "person" = 1
            count(3) = 8
            read "person" = fault 0
            read " person hands 99" = fault 1
            read "name 1 worth 2;person bears 8" = fault 15
            read "task 1 hours 2" = 1
            """);
        says("Terms: eight PERSONS in one TEXT", """
            read "person bears 0;person bears 1;person bears 2;person bears 3;person bears 4;person bears 5;person bears 6;person bears 7" = 8
            nameOf(7, 2) = 7
            """);
    }

    private static void spots() {
        says("Promise 33: SPOTS 0 to 9", """
            task(0, 0, 1)
            hold(0, 0) = 1
            hold(9, 0) = 1
            hold(-1, 0) = BEYOND
            hold(10, 0) = BEYOND
            hold(MIN, -1) = BEYOND
            hold(MAX, -1) = BEYOND
            as(0, 0) = 0
            as(9, 0) = 0
            as(1, 0) = MISSING
            """);
        says("Promise 33: a TASK that there is, or nothing (-1)", """
            hold(0, -1) = 1
            hold(0, 0) = BEYOND
            19 x task(0, 0, 1)
            hold(0, 18) = 1
            hold(0, 19) = BEYOND
            task(0, 0, 1)
            hold(0, 19) = 1
            hold(0, 20) = BEYOND
            hold(0, -2) = BEYOND
            hold(0, MIN) = BEYOND
            hold(0, MAX) = BEYOND
            as(0, 0) = 19
            hold(0, -1) = 1
            as(0, 0) = MISSING
            """);
        says("Promise 34: a kind (0 to 6), SPOTS 0 to 9; BEYOND, MISSING, KIND in this order", """
            task(6, 0, 1)
            hold(9, 0)
            as(9, 0) = 0
            as(9, 6) = 0
            as(9, 1) = 0
            as(9, -1) = BEYOND
            as(9, 7) = BEYOND
            as(9, MIN) = BEYOND
            as(9, MAX) = BEYOND
            as(-1, 0) = BEYOND
            as(10, 0) = BEYOND
            as(10, 7) = BEYOND
            as(0, 7) = BEYOND
            as(0, 6) = MISSING
            as(9, 2) = KIND
            as(9, 3) = KIND
            as(9, 4) = KIND
            as(9, 5) = KIND
            """);
        says("Promise 34: nor of one under it: one above it will not do", """
            read "task0hours1;wall0hours1;debt0hours1;feud0hours1;letter0hours1;promise0hours1;tower0hours1" = 7
            hold(0, 0)
            hold(1, 1)
            hold(2, 2)
            hold(3, 3)
            hold(4, 4)
            hold(5, 5)
            as(0, 0) = 0
            as(0, 1) = KIND
            as(0, 6) = KIND
            as(1, 1) = 1
            as(1, 6) = KIND
            as(1, 2) = KIND
            as(2, 2) = 2
            as(2, 3) = KIND
            as(3, 2) = 3
            as(3, 0) = 3
            as(3, 4) = KIND
            as(4, 4) = 4
            as(4, 5) = KIND
            as(5, 4) = 5
            as(5, 5) = 5
            as(5, 0) = 5
            as(5, 6) = KIND
            turn(5, 4)
            as(5, 5) = KIND
            """);
    }

    private static void sheets() {
        says("Promise 35: SHEETS 0 to 3", """
            sheet(0, 8, 1) = 1
            sheet(3, 8, 1) = 1
            sheet(-1, 8, 1) = BEYOND
            sheet(4, 8, 1) = BEYOND
            sheet(MIN, 8, 1) = BEYOND
            sheet(MAX, 0, 1) = BEYOND
            """);
        says("Promise 35: of 8, 16 or 32 bits; bits 0: it is MISSING; BEYOND: other bits", """
            sheet(0, 8, 2) = 2
            sheet(1, 16, 2) = 2
            sheet(2, 32, 2) = 2
            write(0, 0, 1)
            sheet(0, -8, 2) = BEYOND
            sheet(0, 1, 2) = BEYOND
            sheet(0, 7, 2) = BEYOND
            sheet(0, 9, 2) = BEYOND
            sheet(0, 15, 2) = BEYOND
            sheet(0, 17, 2) = BEYOND
            sheet(0, 24, 2) = BEYOND
            sheet(0, 31, 2) = BEYOND
            sheet(0, 33, 2) = BEYOND
            sheet(0, 64, 2) = BEYOND
            sheet(0, MIN, 2) = BEYOND
            sheet(0, MAX, 2) = BEYOND
            sheet(0, 0, 2) = 0
            write(0, 0, 1) = MISSING
            write(1, 1, 1) = 1
            """);
        says("Promise 35: SIZE: n is below 0 (also with bits 0); BEYOND: n is above 40 (also with bits 0)", """
            sheet(0, 8, 0) = 0
            sheet(0, 8, 40) = 40
            write(0, 39, 5) = 1
            sheet(0, 8, 41) = BEYOND
            sheet(0, 8, -1) = SIZE
            sheet(0, 8, MIN) = SIZE
            sheet(0, 8, MAX) = BEYOND
            sheet(0, 0, 41) = BEYOND
            sheet(0, 0, -1) = SIZE
            sheet(0, 0, MIN) = SIZE
            sheet(0, 0, MAX) = BEYOND
            write(0, 39, 6) = 1
            sheet(0, 0, 40) = 0
            sheet(0, 0, 0) = 0
            write(0, 39, 6) = MISSING
            """);
        says("Promise 35: BEYOND of the sheet and its bits is asked ahead of SIZE", """
            sheet(0, 16, 1)
            sheet(4, 8, -1) = BEYOND
            sheet(-1, 8, -1) = BEYOND
            sheet(0, 9, -1) = BEYOND
            sheet(4, 9, MIN) = BEYOND
            sheet(0, 16, -1) = SIZE
            """);
        says("Promise 35: all 0, when made again", """
            read "person bears 3;person;person" = 3
            sheet(0, 8, 2)
            write(0, 0, 5)
            write(0, 1, 6)
            sheet(0, 8, 1) = 1
            sheet(0, 8, 2) = 2
            load(0) = 1
            of(0, 0) = 0
            """);
        says("Promise 36: BEYOND: no such sheet; MISSING; BEYOND: no such number", """
            sheet(0, 8, 3)
            sheet(1, 8, 0)
            sheet(2, 8, 40)
            write(0, 0, 1) = 1
            write(0, 2, 1) = 1
            write(0, 3, 1) = BEYOND
            write(0, -1, 1) = BEYOND
            write(0, MIN, 1) = BEYOND
            write(0, MAX, 1) = BEYOND
            write(1, 0, 1) = BEYOND
            write(2, 39, 1) = 1
            write(2, 40, 1) = BEYOND
            write(3, 0, 1) = MISSING
            write(3, -1, 1) = MISSING
            write(3, 99, 1) = MISSING
            write(-1, 0, 1) = BEYOND
            write(4, 0, 1) = BEYOND
            write(4, 99, 1) = BEYOND
            write(MIN, 0, 1) = BEYOND
            write(MAX, 0, 1) = BEYOND
            """);
        says("Promise 36: its lowest bits, with their sign: 8 bits", """
            read "task 0 hours 127;person bears 6" = 2
            sheet(0, 8, 1)
            write(0, 0, 127)
            judge(0, 0) = 0
            write(0, 0, 383)
            judge(0, 0) = 0
            write(0, 0, -129)
            judge(0, 0) = 0
            write(0, 0, MAX)
            load(0) = 1
            of(0, 0) = -1
            write(0, 0, 256)
            load(0) = 1
            of(0, 0) = 0
            write(0, 0, 255)
            load(0) = 1
            of(0, 0) = -1
            write(0, 0, 263)
            load(0) = 1
            of(0, 0) = 7
            write(0, 0, MIN)
            load(0) = 1
            of(0, 0) = 0
            write(0, 0, 264)
            load(0) = 0
            write(0, 0, 254)
            load(0) = 0
            write(0, 0, 128)
            load(0) = 0
            """);
        says("Promise 36: of 8 bits 128 is -128, no number of HOURS", """
            task(0, 0, 128)
            sheet(0, 8, 1)
            write(0, 0, 128)
            judge(0, 0) = 1
            sheet(0, 16, 1)
            write(0, 0, 128)
            judge(0, 0) = 0
            """);
        says("Promise 36: its lowest bits, with their sign: 16 bits", """
            read "task 0 hours 999;person bears 6" = 2
            sheet(0, 16, 1)
            write(0, 0, 999)
            judge(0, 0) = 0
            write(0, 0, 66535)
            judge(0, 0) = 0
            write(0, 0, 255)
            load(0) = 0
            write(0, 0, 65535)
            load(0) = 1
            of(0, 0) = -1
            write(0, 0, 65536)
            load(0) = 1
            of(0, 0) = 0
            write(0, 0, MAX)
            load(0) = 1
            of(0, 0) = -1
            write(0, 0, 65543)
            load(0) = 1
            of(0, 0) = 7
            write(0, 0, 65544)
            load(0) = 0
            write(0, 0, 32768)
            load(0) = 0
            """);
        says("Promise 36: 32 bits: all of them", """
            read "task 0 hours 999;person bears 6" = 2
            sheet(0, 32, 1)
            write(0, 0, 999)
            judge(0, 0) = 0
            write(0, 0, 66535)
            judge(0, 0) = 1
            write(0, 0, 65535)
            load(0) = 0
            write(0, 0, 65536)
            load(0) = 0
            write(0, 0, MAX)
            load(0) = 0
            write(0, 0, MIN)
            load(0) = 0
            write(0, 0, -1)
            load(0) = 1
            of(0, 0) = -1
            """);
    }

    private static void copies() {
        says("Promise 37: BEYOND: no such sheet (either); MISSING: one is; KIND; BEYOND", """
            sheet(0, 8, 2)
            sheet(1, 16, 2)
            copy(-1, 0, 0, 0, 1) = BEYOND
            copy(4, 0, 0, 0, 1) = BEYOND
            copy(0, 0, -1, 0, 1) = BEYOND
            copy(0, 0, 4, 0, 1) = BEYOND
            copy(3, 0, 4, 0, 1) = BEYOND
            copy(4, 0, 3, 0, 1) = BEYOND
            copy(0, 0, 3, 0, 1) = MISSING
            copy(3, 0, 0, 0, 1) = MISSING
            copy(2, 0, 3, 0, 1) = MISSING
            copy(3, -1, 0, 0, -1) = MISSING
            copy(0, 0, 3, 99, 99) = MISSING
            copy(3, 0, 3, 0, 0) = MISSING
            copy(0, 0, 1, 0, 1) = KIND
            copy(1, 0, 0, 0, 0) = KIND
            copy(0, -1, 1, 0, 1) = KIND
            copy(0, 0, 1, 0, 99) = KIND
            copy(0, 0, 1, 0, MIN) = KIND
            """);
        says("Promise 37: BEYOND: one has not so many, or from, to or n is below 0", """
            sheet(0, 8, 5)
            sheet(1, 8, 3)
            write(0, 4, 6)
            copy(0, 0, 1, 0, 3) = 3
            copy(0, 2, 1, 0, 3) = 3
            copy(0, 3, 1, 0, 3) = BEYOND
            copy(0, 0, 1, 0, 4) = BEYOND
            copy(0, 0, 1, 1, 3) = BEYOND
            copy(1, 0, 0, 2, 3) = 3
            copy(1, 0, 0, 3, 3) = BEYOND
            copy(1, 1, 0, 0, 3) = BEYOND
            copy(0, -1, 1, 0, 1) = BEYOND
            copy(0, 0, 1, -1, 1) = BEYOND
            copy(0, 0, 1, 0, -1) = BEYOND
            copy(0, -1, 1, -1, 2) = BEYOND
            copy(0, MIN, 1, 0, 1) = BEYOND
            copy(0, 0, 1, MIN, 1) = BEYOND
            copy(0, 0, 1, 0, MIN) = BEYOND
            """);
        says("Promise 37: 0 numbers, also from the end on, not from behind it", """
            sheet(0, 8, 5)
            sheet(1, 8, 0)
            copy(0, 0, 1, 0, 0) = 0
            copy(0, 5, 1, 0, 0) = 0
            copy(1, 0, 0, 5, 0) = 0
            copy(1, 0, 1, 0, 0) = 0
            copy(0, 6, 1, 0, 0) = BEYOND
            copy(1, 0, 0, 6, 0) = BEYOND
            copy(1, 1, 0, 0, 0) = BEYOND
            copy(1, 0, 0, 0, 1) = BEYOND
            copy(0, -1, 0, 0, 0) = BEYOND
            """);
        says("Promise 37: from and n together go round", """
            sheet(0, 8, 40)
            sheet(1, 8, 40)
            copy(0, 0, 1, 0, 40) = 40
            copy(0, 1, 1, 0, 40) = BEYOND
            copy(0, 0, 1, 1, 40) = BEYOND
            copy(0, 0, 1, 0, 41) = BEYOND
            copy(0, MAX, 1, 0, 1) = BEYOND
            copy(0, MAX, 1, 0, MAX) = BEYOND
            copy(0, 0, 1, MAX, MAX) = BEYOND
            copy(0, 1, 1, 1, MAX) = BEYOND
            copy(0, 39, 1, 39, 1) = 1
            copy(0, 39, 1, 39, 2) = BEYOND
            copy(0, 40, 1, 40, 0) = 0
            copy(0, MAX, 1, 0, 0) = BEYOND
            """);
        says("Promise 37: (or the same) (as they all were)", """
            read "task 0 hours 1;task 0 hours 2;task 0 hours 3;task 0 hours 4" = 4
            sheet(0, 8, 5)
            write(0, 0, 1)
            write(0, 1, 2)
            write(0, 2, 3)
            write(0, 3, 4)
            copy(0, 0, 0, 1, 4) = 4
            judge(0, 0) = 2
            sheet(1, 8, 4)
            copy(0, 1, 1, 0, 4) = 4
            judge(1, 0) = 0
            copy(0, 1, 0, 0, 4) = 4
            judge(0, 0) = 5
            copy(0, 0, 0, 0, 5) = 5
            judge(0, 0) = 5
            """);
    }

    private static void readers() {
        says("Promise 38: BEYOND: no such sheet; MISSING", """
            load(-1) = BEYOND
            load(4) = BEYOND
            load(MIN) = BEYOND
            load(MAX) = BEYOND
            load(0) = MISSING
            load(3) = MISSING
            sheet(3, 32, 0)
            load(3) = 0
            """);
        says("Promise 38: it ends at the first that is no NAME (nor -1)", """
            read "person;person bears 5;person" = 3
            sheet(0, 8, 3)
            write(0, 0, 7)
            write(0, 1, 8)
            write(0, 2, 1)
            load(0) = 1
            of(0, 0) = 7
            of(1, 0) = 5
            of(2, 0) = -1
            write(0, 1, -2)
            load(0) = 1
            of(1, 0) = 5
            write(0, 1, -1)
            load(0) = 3
            of(1, 0) = -1
            of(2, 0) = 1
            write(0, 0, 127)
            load(0) = 0
            of(0, 0) = 7
            status(-1) = 0
            """);
        says("Promise 38: for which there is no PERSON", """
            sheet(0, 8, 40)
            load(0) = 0
            person(3)
            load(0) = 1
            of(0, 0) = 0
            write(0, 1, -1)
            write(0, 2, 2)
            load(0) = 1
            person(3)
            load(0) = 2
            status(-1) = 0
            """);
        says("Promise 38: for all 8 PERSONS, and no more", """
            8 x person(3)
            sheet(0, 16, 9)
            write(0, 0, 7)
            write(0, 1, 6)
            write(0, 2, 5)
            write(0, 3, 4)
            write(0, 4, 3)
            write(0, 5, 2)
            write(0, 6, 1)
            write(0, 8, -1)
            load(0) = 8
            of(0, 0) = 7
            of(7, 0) = 0
            load(0) = 8
            """);
        says("Promise 38: or that take() would refuse: borne by another one, AGE 40 (unless -1)", """
            read "person;person bears 3;person age 39" = 3
            sheet(0, 8, 3)
            write(0, 0, 3)
            write(0, 1, 4)
            load(0) = 0
            of(0, 0) = -1
            of(1, 0) = 3
            write(0, 0, 2)
            load(0) = 3
            of(0, 0) = 2
            of(1, 0) = 4
            of(2, 0) = 0
            years(1)
            load(0) = 2
            of(2, 0) = -1
            write(0, 2, -1)
            load(0) = 3
            write(0, 1, 2)
            load(0) = 1
            of(1, 0) = 4
            status(-1) = 0
            """);
        says("Promise 39: BEYOND: no such sheet; MISSING; BEYOND: n; STATE", """
            sheet(0, 8, 0)
            judge(-1, 0) = BEYOND
            judge(4, 0) = BEYOND
            judge(MIN, 61) = BEYOND
            judge(MAX, 0) = BEYOND
            judge(3, 0) = MISSING
            judge(3, 61) = MISSING
            judge(3, -1) = MISSING
            judge(0, -1) = BEYOND
            judge(0, 61) = BEYOND
            judge(0, MIN) = BEYOND
            judge(0, MAX) = BEYOND
            judge(0, 0) = 0
            judge(0, 60) = 0
            """);
        says("Promise 39: STATE: YEAR would be above 999", """
            sheet(0, 8, 0)
            year 939
            judge(0, 60) = 0
            years(1)
            judge(0, 60) = STATE
            judge(0, 59) = 0
            judge(0, 61) = BEYOND
            judge(3, 60) = MISSING
            judge(4, 60) = BEYOND
            year 999
            judge(0, 0) = 0
            judge(0, 1) = STATE
            judge(0, -1) = BEYOND
            """);
        says("Promise 39: 0 if all are, and as many as TASKS then; else 1 and how many are right, from the first on", """
            sheet(0, 16, 0)
            sheet(1, 16, 1)
            judge(0, 0) = 0
            judge(1, 0) = 1
            task(0, 0, 0) = BEYOND
            task(0, 0, 5)
            judge(0, 0) = 1
            judge(1, 0) = 1
            write(1, 0, 5)
            judge(1, 0) = 0
            task(0, 0, 6)
            judge(1, 0) = 2
            sheet(2, 16, 3)
            copy(1, 0, 2, 0, 1)
            judge(2, 0) = 2
            write(2, 1, 6)
            judge(2, 0) = 3
            write(2, 0, 4)
            judge(2, 0) = 1
            """);
        says("Promise 39: as many as TASKS then: those that are left behind count", """
            read "debt 0 hours 10;person hands 1 age 39 bears 0" = 2
            sheet(0, 8, 1)
            write(0, 0, 9)
            judge(0, 1) = 2
            sheet(0, 8, 2)
            write(0, 0, 9)
            write(0, 1, 5)
            judge(0, 1) = 0
            judge(0, 0) = 1
            judge(0, 60) = 0
            """);
        says("Promise 39: a full book and a full sheet", """
            20 x task(0, 0, 7)
            sheet(0, 8, 20)
            judge(0, 60) = 1
            sheet(1, 8, 40)
            write(1, 0, 7)
            copy(1, 0, 1, 1, 1)
            copy(1, 0, 1, 2, 2)
            copy(1, 0, 1, 4, 4)
            copy(1, 0, 1, 8, 8)
            copy(1, 0, 1, 16, 16)
            copy(1, 0, 0, 0, 20)
            judge(0, 0) = 0
            judge(0, 60) = 0
            judge(1, 60) = 21
            write(0, 19, 6)
            judge(0, 60) = 20
            """);
    }

    private static void images() {
        says("Promise 40, 41: an empty book is kept, too", """
            undo() = NONE
            image() = 1
            read "name 1 worth 7;task 0 hours 3;person bears 0" = 3
            hold(0, 0)
            seed(9)
            years(5)
            undo() = 0
            count(0) = 0
            count(1) = 0
            count(3) = 0
            count(7) = 1
            nameOf(1, 0) = 10
            as(0, 0) = MISSING
            taskOf(0, 0) = BEYOND
            of(0, 0) = BEYOND
            """);
        says("Promise 40: all but THE TAPE and SHEETS", """
            person(3)
            image() = 1
            feed "person"
            sheet(0, 8, 1)
            write(0, 0, 5)
            undo() = 0
            count(6) = 6
            load(0) = 1
            of(0, 0) = 5
            text() = 1
            undo() = 0
            count(3) = 1
            of(0, 0) = -1
            """);
        says("Promise 40: a full book; z, SPOTS, YEAR, too", """
            20 x task(3, 7, 999)
            8 x person(9)
            take(7, 7)
            helps(7, 0)
            needs(19, 18)
            hold(9, 19)
            seed(MIN)
            worth(7, 99)
            year 998
            image() = 1
            years(1)
            strike(19)
            turn(19, 0)
            needs(19, -1)
            hold(9, -1)
            seed(0)
            worth(7, 0)
            helps(7, -1)
            change(7, 2, 1)
            change(7, 1, 0)
            undo() = 998
            count(0) = 998
            count(7) = MIN
            as(9, 3) = 19
            taskOf(19, 2) = 999
            taskOf(19, 3) = 18
            nameOf(7, 0) = 99
            nameOf(7, 6) = 1
            of(7, 1) = 40
            of(7, 2) = 9
            of(7, 3) = 0
            """);
        says("Promise 41: what was kept latest (which stays)", """
            image() = 1
            years(1)
            image() = 1
            years(1)
            undo() = 1
            undo() = 1
            years(60)
            undo() = 1
            """);
        says("Promise 41, 42: NONE: nothing is kept; 1 if something was, else 0", """
            undo() = NONE
            tear() = 0
            image()
            tear() = 1
            tear() = 0
            undo() = NONE
            2 x image()
            tear() = 1
            undo() = NONE
            years(3)
            image()
            undo() = 3
            tear() = 1
            """);
        says("Promise 43: what 0 to 7. BEYOND: another what", """
            count(0) = 0
            count(7) = 1
            count(-1) = BEYOND
            count(8) = BEYOND
            count(MIN) = BEYOND
            count(MAX) = BEYOND
            """);
        says("Promise 43: of a full book and a full tape", """
            20 x task(0, 0, 999)
            8 x person(3)
            30 x feed(0x20202020, 4)
            year 999
            count(0) = 999
            count(1) = 20
            count(2) = 20
            count(3) = 8
            count(4) = 0
            count(5) = 19980
            count(6) = 120
            strike(19)
            count(2) = 19
            count(5) = 18981
            """);
        says("Promise 44: which -1: all, 0 to 6. BEYOND (counted from then on): another one", """
            status(-1) = 0
            status(7) = BEYOND
            status(0) = 1
            status(-1) = 1
            status(-2) = BEYOND
            status(MIN) = BEYOND
            status(MAX) = BEYOND
            status(0) = 4
            status(-1) = 4
            status(6) = 0
            sheet(0, 8, -1) = SIZE
            status(6) = 1
            status(0) = 4
            status(-1) = 5
            """);
        says("Promise 44: undo() takes none back, tear() and a FAULT add none", """
            image()
            worth(8, 0) = BEYOND
            undo() = 0
            status(0) = 1
            status(-1) = 1
            tear() = 1
            tear() = 0
            undo() = NONE
            status(3) = 1
            status(-1) = 2
            read "x" = fault 0
            born(8)
            born(8) = 8
            sheet(0, 8, 1)
            write(0, 0, 99)
            load(0) = 0
            status(-1) = 2
            """);
    }

    /** A book with something everywhere, so that nothing can change unseen: tape, sheets, spots, image and all. */
    private static final String RICH = """
        read "name 1 worth 33;task 0 hours 90;feud 1 hours 20 needs 0;letter 2 hours 5;person hands 4 age 7 bears 0;person" = 6
        read "person age 39 bears 2;person hands 9 age 12;person;person;person" = 5
        helps(1, 0)
        strike(2)
        hold(3, 1)
        hold(9, 2)
        seed(-77)
        image()
        years(2)
        worth(5, 6)
        hold(0, 0)
        sheet(0, 8, 3)
        write(0, 0, 5)
        write(0, 2, -1)
        sheet(1, 16, 2)
        write(1, 1, 7)
        feed "name 3 worth 44"
        """;

    private static void everyAct() {
        says("Terms: one that answers a finding changes nothing but status(): names, tasks, persons", RICH + """
            worth(8, 5) = BEYOND
            worth(5, 100) = BEYOND
            task(7, 0, 1) = BEYOND
            task(0, 8, 1) = BEYOND
            task(0, 0, 1000) = BEYOND
            taskOf(3, 0) = BEYOND
            taskOf(0, 6) = BEYOND
            turn(3, 0) = BEYOND
            turn(0, 7) = BEYOND
            needs(3, 0) = BEYOND
            needs(0, 0) = BEYOND
            needs(0, 3) = BEYOND
            strike(3) = BEYOND
            nameOf(8, 0) = BEYOND
            nameOf(0, 7) = BEYOND
            waits(3) = BEYOND
            person(10) = BEYOND
            of(7, 0) = BEYOND
            of(0, 4) = BEYOND
            change(7, 1, 1) = BEYOND
            change(0, 1, 40) = BEYOND
            change(0, 2, 10) = BEYOND
            change(0, 0, 1) = BEYOND
            helps(7, 0) = BEYOND
            helps(0, 0) = BEYOND
            helps(0, 7) = BEYOND
            take(7, 0) = BEYOND
            take(0, 8) = BEYOND
            take(1, 0) = STATE
            take(2, 5) = STATE
            exchange(0, 0) = BEYOND
            exchange(0, 7) = BEYOND
            exchange(0, 2) = STATE
            exchange(2, 0) = STATE
            born(9) = BEYOND
            """);
        says("Terms: one that answers a finding changes nothing but status(): years, choosing", RICH + """
            years(61) = BEYOND
            ahead(101, 0) = BEYOND
            ahead(0, 5) = BEYOND
            shut(8) = BEYOND
            shut(1) = NONE
            ends(3) = BEYOND
            ends(1) = NONE
            choose(7) = BEYOND
            choose(0) = STATE
            choose(2) = STATE
            choose(1) = NONE
            handsFor(7) = BEYOND
            handsFor(1) = STATE
            most(41) = BEYOND
            most(1) = SIZE
            give(41) = BEYOND
            give(1) = SIZE
            lives(8, 1) = BEYOND
            lives(0, 10) = BEYOND
            lives(5, 1) = STATE
            lives(1, 1) = NONE
            best(61) = BEYOND
            whom(7, 1) = BEYOND
            whom(0, 61) = BEYOND
            task(0, 0, 999) = 3
            handsFor(0) = NONE
            """);
        says("Terms: one that answers a finding changes nothing but status(): texts, spots, sheets, images", RICH + """
            feed(0x3b3b, 5) = BEYOND
            feed(0x3b3b, 0) = BEYOND
            hold(10, 0) = BEYOND
            hold(0, 3) = BEYOND
            as(10, 0) = BEYOND
            as(0, 7) = BEYOND
            as(1, 0) = MISSING
            as(3, 4) = KIND
            sheet(4, 8, 1) = BEYOND
            sheet(0, 9, 1) = BEYOND
            sheet(0, 8, -1) = SIZE
            sheet(0, 8, 41) = BEYOND
            sheet(0, 0, -1) = SIZE
            sheet(0, 0, 41) = BEYOND
            write(4, 0, 0) = BEYOND
            write(0, 3, 0) = BEYOND
            write(2, 0, 0) = MISSING
            copy(4, 0, 0, 0, 1) = BEYOND
            copy(0, 0, 4, 0, 1) = BEYOND
            copy(0, 0, 2, 0, 1) = MISSING
            copy(2, 0, 0, 0, 1) = MISSING
            copy(0, 0, 1, 0, 1) = KIND
            copy(0, 0, 0, 1, 3) = BEYOND
            copy(0, 1, 0, 0, 3) = BEYOND
            load(4) = BEYOND
            load(2) = MISSING
            judge(4, 0) = BEYOND
            judge(2, 0) = MISSING
            judge(0, 61) = BEYOND
            count(8) = BEYOND
            status(7) = BEYOND
            read "x" = fault 15
            tear() = 1
            undo() = NONE
            """);
        says("Terms: AHEAD: nothing changes; a question changes nothing, status() neither", RICH + """
            taskOf(0, 2) = ?
            taskOf(1, 4) = 3
            nameOf(1, 5) = -1
            rings() = 0
            waits(0) = 2
            of(0, 3) = -1
            ahead(100, 1) = ?
            ahead(60, 4) = 2
            shut(0) = ?
            ends(0) = ?
            handsFor(0) = ?
            lives(0, 1) = ?
            best(60) = ?
            whom(1, 60) = ?
            as(3, 2) = 1
            judge(0, 60) = 1
            count(5) = ?
            take(3, 1) = -1
            most(40) = ?
            choose(4) = NONE
            strike(0)
            most(40) = ?
            """);
    }

    private static void everyActLate() {
        says("Terms: one that answers a finding changes nothing but status(): a full book in YEAR 999", """
            18 x task(2, 7, 99)
            2 x task(0, 0, 1)
            strike(18)
            strike(19)
            8 x person(9)
            year 960
            change(0, 1, 0)
            change(1, 1, 0)
            take(0, 7)
            take(1, 0)
            helps(2, 0)
            hold(0, 19)
            sheet(3, 32, 40)
            write(3, 39, 6)
            image()
            year 999
            27 x feed(0x20202020, 4)
            feed "name0worth1"
            task(0, 0, 1) = FULL
            person(3) = FULL
            feed(0x3b3b, 2) = FULL
            years(1) = STATE
            ahead(1, 0) = STATE
            shut(0) = STATE
            ends(0) = STATE
            choose(2) = STATE
            handsFor(0) = STATE
            most(1) = STATE
            give(1) = STATE
            best(1) = STATE
            whom(0, 1) = STATE
            judge(3, 1) = STATE
            feed(0x3b, 1) = 120
            feed(0x3b, 1) = FULL
            text() = fault 120
            """);
        says("Terms: one that answers a finding changes nothing but status(): NONE of best()", """
            task(0, 0, 1)
            strike(0)
            person(3)
            hold(0, 0)
            image()
            years(3)
            seed(5)
            best(1) = NONE
            """);
    }

    /** What it is: an object is used for at most 512 calls: the 512th still answers, as many findings as there can be. */
    private static void lastCall() {
        scripts++;
        NameBook x = new NameBook();
        for (int i = 0; i < 511; i++) {
            x.status(7);
        }
        int all = x.status(-1);
        if (all != 511) {
            wrong++;
            System.out.println("What it is: the 512th call, status(-1): answered " + all);
        }
    }
}
