/**
 * "What it is", the Terms I and the promises 1 to 9: a test for each sentence that names an edge, with the sentence
 * above it. RangesTest has each argument's bounds.
 */
public final class PeopleEdgesTest {
    private static final int NONE = HearingDesk.NONE;

    public static void main(String[] args) {
        lastCall();
        nothingAtFirst();
        noTextAtFirst();
        sixtyUntilTold();
        bothWaysAlike();
        toItselfNone();
        dialectsOfLesserOnes();
        dialectNoMore();
        fivePersons();
        fortyPapers();
        firstBehindLast();
        firstAndLastDay();
        greatestPaper();
        lessByDialects();
        notBelowNone();
        notOfTheCourt();
        endsOnADay();
        endsNoLater();
        endsAheadOfItsFirst();
        barredOrNoMore();
        barredFromThatCaseAlone();
        restAsToldLast();
        Due.end();
    }

    private static HearingDesk withPersons(int many) {
        HearingDesk x = new HearingDesk();
        for (int p = 0; p < many; p++) {
            x.person(0);
        }
        return x;
    }

    /** "An object is used for at most 512 calls after it has been made" */
    private static void lastCall() {
        HearingDesk x = new HearingDesk();
        for (int i = 1; i < 512; i++) {
            Due.is("call " + i, x.rest(i % 121), i == 1 ? 30 : (i - 1) % 121);
        }
        Due.is("call 512", x.rest(1), 511 % 121);
    }

    /** "No PERSONS, HEARINGS" */
    private static void nothingAtFirst() {
        HearingDesk x = new HearingDesk();
        for (int what = 0; what < 6; what++) {
            Due.is("1: count " + what, x.count(what), 0);
        }
        Due.is("1: no person for a paper", x.paper(0, 0, 1, 0, 0), NONE);
        Due.is("1: no paper", x.withdraw(0, 0), false);
        Due.is("1: no person's grade", x.grade(0, 0, 0), NONE);
        Due.is("1: no person to bar", x.bar(0, 0, true), false);
        Due.is("1: no hearing to move", x.move(0, 0, 0), false);
        Due.is("1: no hearing to cancel", x.cancel(0, 0), false);
        Due.is("1: no hearing's teams", x.teams(0), NONE);
        Due.is("1: no hearing's team", x.team(0, 0, 0), NONE);
        Due.is("1: no plan yet", x.planned(0), NONE);
        Due.is("1: no seat", x.seat(0, 0), NONE);
        Due.is("1: no turn", x.turn(0, 0), NONE);
        Due.is("1: no person's journeys", x.journeys(0, 0), NONE);
        Due.is("1: no person's fee", x.fee(0, 0), NONE);
        Due.is("1: none to ask for", x.ask(0, 0, 0), NONE);
        Due.is("1: none was asked", x.answer(0, 0, true, 0), false);
        Due.is("1: none is known", x.known(0, 999, 0), NONE);
        Due.is("1: none refused", x.refusals(NONE, 999), 0);
        Due.is("1: none to plan", x.plan(0, true), 0);
        Due.is("1: the first person", x.person(0), 0);
        Due.is("1: another desk has none", new HearingDesk().count(0), 0);
    }

    /** "no text of FEES" */
    private static void noTextAtFirst() {
        HearingDesk x = new HearingDesk();
        Due.is("1: no clauses", x.count(6), 0);
        for (int day = 0; day < 1000; day += 999) {
            for (int what = 0; what < 16; what++) {
                int due = what > 5 && what < 11 ? NONE : what == 2 || what == 3 ? 100 : 0;
                Due.is("1: tells " + what + " on " + day, x.tells(day, what), due);
            }
        }
    }

    /** "the WAY between two unlike ones is 60 MINUTES until told" */
    private static void sixtyUntilTold() {
        for (int a = 0; a < 6; a++) {
            for (int b = 0; b < 6; b++) {
                HearingDesk x = new HearingDesk();
                Due.is("2: " + a + " to " + b, x.way(a, b, 10), a == b ? NONE : 60);
                Due.is("2: " + a + " to " + b + ", told", x.way(a, b, 20), a == b ? NONE : 10);
            }
        }
    }

    /** "(0 to 300, both ways alike)"; the others stay as they were */
    private static void bothWaysAlike() {
        for (int told = 0; told <= 300; told += 300) {
            HearingDesk x = new HearingDesk();
            x.way(2, 4, told);
            for (int a = 0; a < 6; a++) {
                for (int b = a + 1; b < 6; b++) {
                    Due.is("2: from " + b + " to " + a, x.way(b, a, 5), a == 2 && b == 4 ? told : 60);
                    Due.is("2: back from " + a + " to " + b, x.way(a, b, 6), 5);
                }
            }
        }
    }

    /** "of one to itself 0"; "NONE, and nothing happens, if something is not as told (both one, too)" */
    private static void toItselfNone() {
        for (int town = 0; town < 6; town++) {
            HearingDesk x = new HearingDesk();
            x.person(town);
            x.paper(0, 0, 1, 0, 0);
            x.paper(0, 1, 1, 0, 0);
            x.rest(0);
            Due.is("2: " + town + " to itself", x.way(town, town, 70), NONE);
            Due.is("2: " + town + " to itself by 0", x.way(town, town, 0), NONE);
            x.hearing(0, 0, 0, 10, town, 1, 1);
            x.hearing(0, 0, 10, 10, town, 1, 1);
            Due.is("2: one behind the other in " + town, x.plan(0, false), 0);
            Due.is("2: no journeys in " + town, x.journeys(0, 0), 0);
        }
    }

    /** "A TONGUE (2 to 9) is a DIALECT of another one (1 to one less": each pair, and those around them */
    private static void dialectsOfLesserOnes() {
        for (int tongue = -1; tongue <= 11; tongue++) {
            for (int of = -1; of <= 11; of++) {
                HearingDesk x = withPersons(1);
                boolean isOne = tongue >= 2 && tongue <= 9 && of >= 0 && of < tongue;
                Due.is("3: " + tongue + " of " + of, x.dialect(tongue, of), isOne);
                x.paper(0, of, 3, 0, 999);
                for (int t = 0; t < 10; t++) {
                    int due = of < 0 || of > 9 ? 0 : t == of ? 3 : isOne && of > 0 && t == tongue ? 2 : 0;
                    Due.is("3: " + tongue + " of " + of + ", grade in " + t, x.grade(0, t, 5), due);
                }
            }
        }
    }

    /** "0: of none any more): true; false, and nothing happens, for others" */
    private static void dialectNoMore() {
        HearingDesk x = withPersons(1);
        x.paper(0, 1, 5, 0, 999);
        x.paper(0, 2, 2, 0, 999);
        Due.is("3: of none, and was of none", x.dialect(9, 0), true);
        x.dialect(9, 1);
        Due.is("3: of 1", x.grade(0, 9, 0), 4);
        Due.is("3: of itself", x.dialect(9, 9), false);
        Due.is("3: of 1 as ever", x.grade(0, 9, 0), 4);
        Due.is("3: of 2 in its place", x.dialect(9, 2), true);
        Due.is("3: not of 1 now", x.grade(0, 9, 0), 1);
        Due.is("3: of none any more", x.dialect(9, 0), true);
        Due.is("3: of none", x.grade(0, 9, 0), 0);
        Due.is("3: 1 is never told", x.dialect(1, 0), false);
        Due.is("3: 1 by its paper", x.grade(0, 1, 0), 5);
    }

    /** "A PERSON comes: the number; NONE: there are 5, or there is no such TOWN" */
    private static void fivePersons() {
        HearingDesk x = new HearingDesk();
        for (int p = 0; p < 5; p++) {
            Due.is("4: no town -1 ahead of " + p, x.person(-1), NONE);
            Due.is("4: no town 6 ahead of " + p, x.person(6), NONE);
            Due.is("4: person " + p, x.person(p + 1), p);
            Due.is("4: persons", x.count(0), p + 1);
        }
        Due.is("4: person 4 is there", x.grade(4, 0, 0), 0);
        Twins.unchanged("4: a sixth", Desks::full, full -> full.person(0), NONE);
    }

    /** "NONE: there are 40, or something is not as told": what is refused takes no number, what has ended keeps its own */
    private static void fortyPapers() {
        HearingDesk x = withPersons(5);
        for (int i = 0; i < 40; i++) {
            Due.is("5: refused ahead of " + i, x.paper(5, 0, 1, 0, 0), NONE);
            Due.is("5: paper " + i, x.paper(i % 5, i / 4, 1 + i % 5, i, 999), i);
        }
        Due.is("5: the last one holds", x.grade(4, 9, 39), 5);
        Due.is("5: from its first day on", x.grade(4, 9, 8), 0);
        x.withdraw(0, 0);
        Due.is("5: papers that ended count", x.paper(0, 0, 1, 0, 0), NONE);
        Due.is("5: forty", x.count(1), 40);
        Due.is("5: the last one is there", x.withdraw(39, 999), true);
        Due.is("5: none behind it", x.withdraw(40, 999), false);
        Twins.unchanged("5: a 41st", Desks::full, full -> full.paper(0, 9, 5, 0, 999), NONE);
    }

    /** "(the first DAY behind the last, too)" */
    private static void firstBehindLast() {
        int[] days = {0, 1, 500, 998, 999};
        for (int first : days) {
            for (int last : days) {
                HearingDesk x = withPersons(1);
                Due.is("5: from " + first + " to " + last, x.paper(0, 1, 1, first, last), first <= last ? 0 : NONE);
                Due.is("5: on " + last, x.grade(0, 1, last), first <= last ? 1 : 0);
                Due.is("5: on " + first, x.grade(0, 1, first), first <= last ? 1 : 0);
            }
        }
    }

    /** "from a DAY to a DAY": both of them, and no other */
    private static void firstAndLastDay() {
        int[][] spans = {{0, 0}, {0, 999}, {999, 999}, {10, 20}, {500, 500}};
        for (int[] span : spans) {
            HearingDesk x = withPersons(1);
            x.paper(0, 9, 5, span[0], span[1]);
            for (int edge : span) {
                for (int day = edge - 1; day <= edge + 1; day++) {
                    boolean isDay = day >= 0 && day <= 999;
                    int due = !isDay ? NONE : day >= span[0] && day <= span[1] ? 5 : 0;
                    Due.is("7: from " + span[0] + " to " + span[1] + " on " + day, x.grade(0, 9, day), due);
                }
            }
        }
    }

    /** "the greatest of his PAPERS that hold then: for this TONGUE their grade" */
    private static void greatestPaper() {
        HearingDesk x = withPersons(2);
        Due.is("7: without", x.grade(0, 4, 5), 0);
        x.paper(0, 4, 1, 0, 9);
        Due.is("7: the least grade", x.grade(0, 4, 5), 1);
        x.paper(0, 4, 5, 0, 5);
        x.paper(0, 4, 3, 0, 7);
        Due.is("7: the greatest of three", x.grade(0, 4, 5), 5);
        Due.is("7: of two", x.grade(0, 4, 6), 3);
        Due.is("7: of two, the last day", x.grade(0, 4, 7), 3);
        Due.is("7: of one", x.grade(0, 4, 8), 1);
        Due.is("7: of none", x.grade(0, 4, 10), 0);
        Due.is("7: not another's", x.grade(1, 4, 5), 0);
        Due.is("7: not for another tongue", x.grade(0, 3, 5), 0);
    }

    /** "for one that it is a DIALECT of, 1 less; for one that this is a DIALECT of, 2 less, and so on" */
    private static void lessByDialects() {
        HearingDesk x = withPersons(2);
        x.dialect(4, 2);
        x.dialect(7, 4);
        x.dialect(8, 4);
        x.paper(0, 2, 4, 0, 999);
        Due.is("7: itself", x.grade(0, 2, 0), 4);
        Due.is("7: 1 less", x.grade(0, 4, 0), 3);
        Due.is("7: 2 less", x.grade(0, 7, 0), 2);
        x.paper(0, 4, 3, 0, 999);
        Due.is("7: its own paper, as good", x.grade(0, 4, 0), 3);
        Due.is("7: by either, as good", x.grade(0, 7, 0), 2);
        x.paper(0, 4, 4, 0, 999);
        Due.is("7: its own paper, better", x.grade(0, 4, 0), 4);
        Due.is("7: 1 less by the better one", x.grade(0, 7, 0), 3);
        x.paper(0, 7, 5, 0, 999);
        Due.is("7: a dialect's paper is none for its tongue", x.grade(0, 4, 0), 4);
        Due.is("7: nor for that one's tongue", x.grade(0, 2, 0), 4);
        Due.is("7: nor for a dialect beside it", x.grade(0, 8, 0), 3);
        x.paper(1, 7, 5, 0, 999);
        Due.is("7: a dialect's paper alone", x.grade(1, 7, 0), 5);
        Due.is("7: none for its tongue", x.grade(1, 4, 0), 0);
        Due.is("7: none for that one's tongue", x.grade(1, 2, 0), 0);
        Due.is("7: none for a dialect beside it", x.grade(1, 8, 0), 0);
    }

    /** "0 without (or below 0)" */
    private static void notBelowNone() {
        for (int grade = 1; grade <= 5; grade++) {
            HearingDesk x = withPersons(1);
            for (int t = 2; t < 10; t++) {
                x.dialect(t, t - 1);
            }
            x.paper(0, 1, grade, 0, 999);
            for (int t = 1; t < 10; t++) {
                Due.is("7: paper of " + grade + ", grade in " + t, x.grade(0, t, 0), Math.max(0, grade - (t - 1)));
            }
        }
    }

    /** "A TONGUE may be told a DIALECT of another one with a lesser number (not 0)" */
    private static void notOfTheCourt() {
        HearingDesk x = withPersons(1);
        x.paper(0, 0, 5, 0, 999);
        Due.is("7: the court's own", x.grade(0, 0, 0), 5);
        for (int t = 1; t < 10; t++) {
            x.dialect(t, 0);
            Due.is("7: " + t + " is none of the court's", x.grade(0, t, 0), 0);
        }
    }

    /** "A PAPER ends on a DAY (its last one then, if that was later" */
    private static void endsOnADay() {
        for (int last = 10; last <= 20; last++) {
            HearingDesk x = withPersons(1);
            x.paper(0, 1, 2, 10, 20);
            Due.is("6: ends on " + last, x.withdraw(0, last), true);
            for (int day = 9; day <= 21; day++) {
                Due.is("6: ends on " + last + ", on " + day, x.grade(0, 1, day), day >= 10 && day <= last ? 2 : 0);
            }
        }
    }

    /** "if that was later": a later DAY is no more time, neither at first nor for one that has ended */
    private static void endsNoLater() {
        HearingDesk x = withPersons(1);
        x.paper(0, 1, 2, 10, 20);
        x.paper(0, 2, 2, 10, 20);
        Due.is("6: on 21", x.withdraw(0, 21), true);
        Due.is("6: on 999", x.withdraw(0, 999), true);
        Due.is("6: 20 is its last as ever", x.grade(0, 1, 20), 2);
        Due.is("6: 21 is not", x.grade(0, 1, 21), 0);
        Due.is("6: on 15", x.withdraw(0, 15), true);
        Due.is("6: on 16", x.withdraw(0, 16), true);
        Due.is("6: 15 is its last", x.grade(0, 1, 15), 2);
        Due.is("6: 16 is not", x.grade(0, 1, 16), 0);
        Due.is("6: the other paper is as it was", x.grade(0, 2, 20), 2);
        Due.is("6: both are there", x.count(1), 2);
    }

    /** "ahead of its first: it never holds): true" */
    private static void endsAheadOfItsFirst() {
        for (int last : new int[] {0, 8, 9}) {
            HearingDesk x = withPersons(1);
            x.paper(0, 1, 2, 10, 12);
            Due.is("6: ends on " + last, x.withdraw(0, last), true);
            for (int day = 7; day <= 13; day++) {
                Due.is("6: ended on " + last + ", on " + day, x.grade(0, 1, day), 0);
            }
            Due.is("6: its last again", x.withdraw(0, 12), true);
            Due.is("6: it never holds", x.grade(0, 1, 10), 0);
        }
    }

    /** "A PERSON is BARRED from a CASE, or no more: whether that changed anything" */
    private static void barredOrNoMore() {
        HearingDesk x = withPersons(5);
        for (int p = 0; p < 5; p += 4) {
            for (int which = 0; which < 20; which += 19) {
                String who = "8: " + p + " from " + which;
                Due.is(who + ", no more, and was not", x.bar(p, which, false), false);
                Due.is(who, x.bar(p, which, true), true);
                Due.is(who + ", again", x.bar(p, which, true), false);
                Due.is(who + ", no more", x.bar(p, which, false), true);
                Due.is(who + ", no more, again", x.bar(p, which, false), false);
            }
        }
    }

    /** "a PERSON may be BARRED from one (from then on, or no more)"; "False without such" */
    private static void barredFromThatCaseAlone() {
        HearingDesk x = withPersons(5);
        x.bar(2, 10, true);
        Due.is("8: no case 20", x.bar(2, 20, true), false);
        Due.is("8: no case -1", x.bar(2, -1, true), false);
        Due.is("8: no person 5", x.bar(5, 0, true), false);
        Due.is("8: no person -1", x.bar(-1, 19, true), false);
        for (int p = 0; p < 5; p++) {
            for (int which = 0; which < 20; which++) {
                Due.is("8: " + p + " no more from " + which, x.bar(p, which, false), p == 2 && which == 10);
            }
        }
    }

    /** "The REST: what it was; NONE, and nothing happens, if it is not 0 to 120" */
    private static void restAsToldLast() {
        HearingDesk x = new HearingDesk();
        Due.is("9: 30 at first", x.rest(0), 30);
        Due.is("9: -1", x.rest(-1), NONE);
        Due.is("9: 0 still", x.count(7), 0);
        Due.is("9: was 0", x.rest(120), 0);
        Due.is("9: 121", x.rest(121), NONE);
        Due.is("9: 120 still", x.count(7), 120);
        Due.is("9: was 120", x.rest(120), 120);
    }
}
