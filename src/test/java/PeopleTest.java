/** Promises 1 to 9: a new object, ways, dialects, persons, papers, bars and the rest. */
public final class PeopleTest {
    private static final int NONE = HearingDesk.NONE;

    public static void main(String[] args) {
        newObject();
        ways();
        dialects();
        persons();
        papers();
        withdrawals();
        grades();
        bars();
        rests();
        Due.end();
    }

    private static void newObject() {
        HearingDesk x = new HearingDesk();
        for (int what = 0; what <= 6; what++) {
            Due.is("1: count " + what, x.count(what), 0);
        }
        Due.is("1: rest", x.count(7), 30);
        Due.is("1: planned", x.planned(0), NONE);
        Due.is("1: pair", x.tells(0, 2), 100);
        Due.is("1: hearing 0", x.teams(0), NONE);
        Due.is("1: person 0", x.grade(0, 0, 0), NONE);
        x.person(0);
        Due.is("1: another object has its own persons", new HearingDesk().count(0), 0);
    }

    private static void ways() {
        HearingDesk x = new HearingDesk();
        Due.is("2: at first", x.way(0, 5, 300), 60);
        Due.is("2: both ways alike", x.way(5, 0, 0), 300);
        Due.is("2: as told", x.way(0, 5, 1), 0);
        Due.is("2: above 300", x.way(0, 5, 301), NONE);
        Due.is("2: below 0", x.way(0, 5, -1), NONE);
        Due.is("2: both one", x.way(3, 3, 10), NONE);
        Due.is("2: no town 6", x.way(0, 6, 10), NONE);
        Due.is("2: no town 6 ahead", x.way(6, 0, 10), NONE);
        Due.is("2: no town -1", x.way(-1, 0, 10), NONE);
        Due.is("2: no town -1 behind", x.way(0, -1, 10), NONE);
        Due.is("2: nothing happened", x.way(0, 5, 2), 1);
        Due.is("2: others are as they were", x.way(0, 4, 7), 60);
        Due.is("2: 1 and 5", x.way(1, 5, 7), 60);
    }

    private static void dialects() {
        HearingDesk x = new HearingDesk();
        Due.is("3: 2 of 1", x.dialect(2, 1), true);
        Due.is("3: 9 of 8", x.dialect(9, 8), true);
        Due.is("3: of none", x.dialect(9, 0), true);
        Due.is("3: of none again", x.dialect(9, 0), true);
        Due.is("3: 1 of none", x.dialect(1, 0), false);
        Due.is("3: 0", x.dialect(0, 0), false);
        Due.is("3: of itself", x.dialect(4, 4), false);
        Due.is("3: of a greater one", x.dialect(4, 5), false);
        Due.is("3: 10", x.dialect(10, 1), false);
        Due.is("3: below 0", x.dialect(4, -1), false);
        Due.is("3: -1", x.dialect(-1, 0), false);
        x.person(0);
        x.paper(0, 1, 5, 0, 999);
        Due.is("3: a dialect's grade", x.grade(0, 2, 5), 4);
        Due.is("3: false changes nothing", x.dialect(2, 2), false);
        Due.is("3: still", x.grade(0, 2, 5), 4);
        x.dialect(2, 0);
        Due.is("3: no more", x.grade(0, 2, 5), 0);
    }

    private static void persons() {
        HearingDesk x = new HearingDesk();
        Due.is("4: no town 6", x.person(6), NONE);
        Due.is("4: no town -1", x.person(-1), NONE);
        for (int i = 0; i < 5; i++) {
            Due.is("4: person " + i, x.person(5 - i), i);
        }
        Due.is("4: a sixth", x.person(0), NONE);
        Due.is("4: five", x.count(0), 5);
    }

    private static void papers() {
        HearingDesk x = new HearingDesk();
        Due.is("5: no person", x.paper(0, 1, 1, 0, 0), NONE);
        x.person(0);
        Due.is("5: no person 1", x.paper(1, 1, 1, 0, 0), NONE);
        Due.is("5: no person -1", x.paper(-1, 1, 1, 0, 0), NONE);
        Due.is("5: no tongue 10", x.paper(0, 10, 1, 0, 0), NONE);
        Due.is("5: no tongue -1", x.paper(0, -1, 1, 0, 0), NONE);
        Due.is("5: no grade 0", x.paper(0, 1, 0, 0, 0), NONE);
        Due.is("5: no grade 6", x.paper(0, 1, 6, 0, 0), NONE);
        Due.is("5: no day -1", x.paper(0, 1, 1, -1, 0), NONE);
        Due.is("5: no day 1000", x.paper(0, 1, 1, 0, 1000), NONE);
        Due.is("5: first behind last", x.paper(0, 1, 1, 5, 4), NONE);
        Due.is("5: none came", x.count(1), 0);
        Due.is("5: one day", x.paper(0, 0, 5, 999, 999), 0);
        Due.is("5: holds", x.grade(0, 0, 999), 5);
        for (int i = 1; i < 40; i++) {
            Due.is("5: paper " + i, x.paper(0, 9, 1, 0, 999), i);
        }
        Due.is("5: a 41st", x.paper(0, 9, 5, 0, 999), NONE);
        Due.is("5: forty", x.count(1), 40);
        Due.is("5: the 41st does not hold", x.grade(0, 9, 0), 1);
    }

    private static void withdrawals() {
        HearingDesk x = new HearingDesk();
        x.person(0);
        x.paper(0, 1, 3, 10, 20);
        Due.is("6: none such", x.withdraw(1, 15), false);
        Due.is("6: -1", x.withdraw(-1, 15), false);
        Due.is("6: day -1", x.withdraw(0, -1), false);
        Due.is("6: day 1000", x.withdraw(0, 1000), false);
        Due.is("6: later than its last", x.withdraw(0, 30), true);
        Due.is("6: that is no more time", x.grade(0, 1, 21), 0);
        Due.is("6: to 15", x.withdraw(0, 15), true);
        Due.is("6: 15 holds", x.grade(0, 1, 15), 3);
        Due.is("6: 16 does not", x.grade(0, 1, 16), 0);
        Due.is("6: back to 18", x.withdraw(0, 18), true);
        Due.is("6: 16 still does not", x.grade(0, 1, 16), 0);
        Due.is("6: ahead of its first", x.withdraw(0, 9), true);
        for (int day = 8; day < 22; day++) {
            Due.is("6: never holds, " + day, x.grade(0, 1, day), 0);
        }
        Due.is("6: it is there still", x.count(1), 1);
    }

    private static void grades() {
        HearingDesk x = new HearingDesk();
        x.person(0);
        x.person(0);
        x.paper(0, 1, 5, 10, 20);
        Due.is("7: ahead of the first day", x.grade(0, 1, 9), 0);
        Due.is("7: first day", x.grade(0, 1, 10), 5);
        Due.is("7: last day", x.grade(0, 1, 20), 5);
        Due.is("7: behind the last day", x.grade(0, 1, 21), 0);
        Due.is("7: another person", x.grade(1, 1, 15), 0);
        x.dialect(2, 1);
        x.dialect(5, 2);
        x.dialect(6, 5);
        x.dialect(7, 6);
        x.dialect(8, 7);
        x.dialect(9, 8);
        Due.is("7: dialect", x.grade(0, 2, 15), 4);
        Due.is("7: dialect of a dialect", x.grade(0, 5, 15), 3);
        Due.is("7: and so on", x.grade(0, 6, 15), 2);
        Due.is("7: and on", x.grade(0, 7, 15), 1);
        Due.is("7: down to 0", x.grade(0, 8, 15), 0);
        Due.is("7: not below 0", x.grade(0, 9, 15), 0);
        x.paper(0, 2, 2, 0, 999);
        Due.is("7: the greatest", x.grade(0, 2, 15), 4);
        Due.is("7: when that does not hold", x.grade(0, 2, 9), 2);
        Due.is("7: less by it", x.grade(0, 5, 9), 1);
        Due.is("7: a paper for a dialect is none for its tongue", x.grade(0, 1, 9), 0);
        x.paper(0, 0, 4, 0, 999);
        Due.is("7: the court's", x.grade(0, 0, 9), 4);
        Due.is("7: none is a dialect of the court's", x.grade(0, 3, 9), 0);
        Due.is("7: 1 is none of the court's", x.grade(0, 1, 9), 0);
        Due.is("7: no person", x.grade(2, 1, 9), NONE);
        Due.is("7: no person -1", x.grade(-1, 1, 9), NONE);
        Due.is("7: no tongue", x.grade(0, 10, 9), NONE);
        Due.is("7: no tongue -1", x.grade(0, -1, 9), NONE);
        Due.is("7: no day", x.grade(0, 1, 1000), NONE);
        Due.is("7: no day -1", x.grade(0, 1, -1), NONE);
    }

    private static void bars() {
        HearingDesk x = new HearingDesk();
        x.person(0);
        x.person(0);
        x.paper(0, 0, 1, 0, 999);
        x.paper(0, 1, 1, 0, 999);
        x.hearing(19, 0, 0, 10, 0, 1, 1);
        Due.is("8: not barred yet", x.bar(0, 19, false), false);
        Due.is("8: barred", x.bar(0, 19, true), true);
        Due.is("8: barred already", x.bar(0, 19, true), false);
        Due.is("8: no team", x.teams(0), 0);
        Due.is("8: another person", x.bar(1, 19, true), true);
        Due.is("8: another case", x.bar(0, 0, true), true);
        Due.is("8: no more", x.bar(0, 19, false), true);
        Due.is("8: a team", x.teams(0), 1);
        Due.is("8: no person", x.bar(2, 19, true), false);
        Due.is("8: no person -1", x.bar(-1, 19, true), false);
        Due.is("8: no case 20", x.bar(0, 20, true), false);
        Due.is("8: no case -1", x.bar(0, -1, true), false);
        Due.is("8: person 1 by case 0", x.bar(1, 0, false), false);
    }

    private static void rests() {
        HearingDesk x = new HearingDesk();
        Due.is("9: at first", x.rest(120), 30);
        Due.is("9: above", x.rest(121), NONE);
        Due.is("9: below", x.rest(-1), NONE);
        Due.is("9: as told", x.rest(0), 120);
        Due.is("9: none", x.rest(45), 0);
        Due.is("9: count", x.count(7), 45);
    }
}
