/**
 * The end of the Terms II, the Terms III and the promises 15 to 19: a test for each sentence that names an edge, with
 * the sentence above it. RangesTest has each argument's bounds.
 */
public final class PlanEdgesTest {
    private static final int NONE = HearingDesk.NONE;

    public static void main(String[] args) {
        restBetween();
        wayBetween();
        restAndWayUntilTold();
        oneBegin();
        wayFromTheOneAhead();
        journeysThereAndBack();
        journeysOfOneBegin();
        notCancelled();
        noneToPlan();
        fourToPlan();
        fewestWithout();
        changesIfToKeep();
        changesBelowWithout();
        changesOfPersons();
        changesOfSwappedSeats();
        leastJourneys();
        leastJourneysOfFewestChanges();
        firstTeam();
        noneIsLast();
        teamsAreSeats();
        seatsStay();
        plannedAheadOfAny();
        plannedOfTheLatest();
        seatOfTwo();
        turnsOfLongOnes();
        turnsOfOthers();
        turnsWithoutSeats();
        journeysBySeatsNow();
        Due.end();
    }

    /** A hearing of case 0 and day 0 that those of Desks.fitOnes are fit for. */
    private static int hear(HearingDesk x, int begin, int length, int town) {
        return x.hearing(0, 0, begin, length, town, 1, 3);
    }

    /** The first seats of hearings 0, 1, .. */
    private static void seats(String label, HearingDesk x, int... want) {
        for (int h = 0; h < want.length; h++) {
            Due.is(label + ", seat of " + h, x.seat(h, 0), want[h]);
        }
    }

    /** One person and two hearings with so many minutes between: whether both are his, in either order of numbers. */
    private static void between(String label, HearingDesk x, int free, int town, boolean holds) {
        hear(x, 400, 50, 1);
        hear(x, 450 + free, 80, town);
        Due.is(label + ", " + free + " between", x.plan(0, false), holds ? 0 : 1);
        x.move(0, 0, 480 + free);
        x.move(1, 0, 400);
        Due.is(label + ", " + free + " between, the other way", x.plan(0, false), holds ? 0 : 1);
    }

    /** "HOLD if each next one begins at least the REST (0 to 120 ..) .. behind the end of the one ahead" */
    private static void restBetween() {
        for (int rest : new int[] {0, 1, 30, 119, 120}) {
            for (int free = rest - 1; free <= rest + 1; free++) {
                HearingDesk x = Desks.fitOnes(1);
                x.rest(rest);
                between("15: rest " + rest, x, free, 1, free >= rest);
            }
        }
    }

    /** "and at least the WAY from one TOWN to the other": of WAY and REST the greater one tells */
    private static void wayBetween() {
        int[][] restsAndWays = {{0, 0}, {0, 1}, {0, 300}, {30, 29}, {30, 30}, {30, 31}, {120, 60}, {60, 120}};
        for (int[] n : restsAndWays) {
            int needed = Math.max(n[0], n[1]);
            for (int free = needed - 1; free <= needed + 1; free++) {
                HearingDesk x = Desks.fitOnes(1);
                x.rest(n[0]);
                x.way(2, 1, n[1]);
                between("15: rest " + n[0] + ", way " + n[1], x, free, 2, free >= needed);
            }
        }
    }

    /** "30 at first"; "60 MINUTES until told" */
    private static void restAndWayUntilTold() {
        for (int free = 29; free <= 30; free++) {
            between("15: rest at first", Desks.fitOnes(1), free, 1, free == 30);
        }
        for (int free = 59; free <= 60; free++) {
            between("15: way at first", Desks.fitOnes(1), free, 5, free == 60);
        }
    }

    /** "by begin (of one begin by numbers)": two of one begin never HOLD, though there be no REST and no WAY */
    private static void oneBegin() {
        HearingDesk x = Desks.fitOnes(1);
        x.rest(0);
        x.way(1, 2, 0);
        hear(x, 0, 10, 1);
        hear(x, 0, 10, 2);
        Due.is("15: of one begin", x.plan(0, false), 1);
        x.move(1, 0, 9);
        Due.is("15: a minute too early", x.plan(0, false), 1);
        x.move(1, 0, 10);
        Due.is("15: at the end", x.plan(0, false), 0);
        x.move(0, 0, 1430);
        Due.is("15: the last minutes of the day", x.plan(0, false), 0);
        x.move(1, 0, 1420);
        Due.is("15: just ahead of them", x.plan(0, false), 0);
        x.move(1, 0, 1421);
        Due.is("15: into them", x.plan(0, false), 1);
    }

    /** "each next one .. the one ahead": the WAY from one that is not next does not matter */
    private static void wayFromTheOneAhead() {
        HearingDesk x = Desks.fitOnes(1);
        x.rest(0);
        x.way(1, 3, 300);
        x.way(1, 2, 10);
        x.way(2, 3, 10);
        hear(x, 0, 10, 1);
        hear(x, 40, 10, 3);
        Due.is("15: from 1 to 3", x.plan(0, false), 1);
        hear(x, 20, 10, 2);
        Due.is("15: by 2", x.plan(0, false), 0);
        x.move(2, 0, 19);
        Due.is("15: too early at 2", x.plan(0, false), 1);
        x.move(2, 0, 21);
        Due.is("15: too late at 2", x.plan(0, false), 1);
    }

    /** "the WAYS from his TOWN to the first, from each to the next, from the last one back" */
    private static void journeysThereAndBack() {
        HearingDesk x = Desks.fitOnes(1);
        x.way(0, 1, 1);
        x.way(1, 2, 20);
        x.way(2, 3, 300);
        x.way(0, 2, 7);
        x.way(0, 3, 50);
        Due.is("19: no hearing", x.journeys(0, 0), 0);
        hear(x, 0, 10, 1);
        x.plan(0, false);
        Due.is("19: one hearing", x.journeys(0, 0), 1 + 1);
        hear(x, 100, 10, 2);
        x.plan(0, false);
        Due.is("19: two hearings", x.journeys(0, 0), 1 + 20 + 7);
        hear(x, 500, 10, 3);
        x.plan(0, false);
        Due.is("19: three hearings", x.journeys(0, 0), 1 + 20 + 300 + 50);
        hear(x, 700, 10, 0);
        x.plan(0, false);
        Due.is("19: the last one at home", x.journeys(0, 0), 1 + 20 + 300 + 50 + 0);
        Due.planned("16: the same", x, 4, 0, 0, 371);
        x.cancel(3, 0);
        x.way(3, 4, 2);
        x.way(4, 0, 33);
        hear(x, 700, 10, 4);
        x.plan(0, false);
        Due.is("19: four hearings", x.journeys(0, 0), 1 + 20 + 300 + 2 + 33);
        Due.planned("16: the same of four", x, 4, 0, 0, 356);
    }

    /** "by begin (of one begin by numbers)": SEATS that came by moves need not HOLD, but have JOURNEYS */
    private static void journeysOfOneBegin() {
        HearingDesk x = Desks.fitOnes(1);
        x.way(0, 1, 10);
        x.way(0, 2, 40);
        x.way(1, 2, 20);
        x.way(1, 3, 100);
        x.way(2, 3, 5);
        x.way(0, 3, 7);
        for (int h = 0; h < 3; h++) {
            x.hearing(0, h, 0, 60, 1 + h, 1, 3);
            x.plan(h, false);
        }
        x.move(2, 9, 700);
        x.move(1, 9, 500);
        x.move(0, 9, 500);
        Due.is("19: of one begin", x.journeys(0, 9), 10 + 20 + 5 + 7);
        x.move(0, 9, 501);
        Due.is("19: 1 a minute ahead of 0", x.journeys(0, 9), 40 + 20 + 100 + 7);
        x.move(0, 9, 499);
        Due.is("19: 0 a minute ahead of 1", x.journeys(0, 9), 10 + 20 + 5 + 7);
        x.move(2, 9, 499);
        Due.is("19: 0, then 2, then 1", x.journeys(0, 9), 10 + 100 + 5 + 40);
        x.move(1, 9, 499);
        Due.is("19: all of one begin", x.journeys(0, 9), 10 + 20 + 5 + 7);
    }

    /** "to each of its HEARINGS (not CANCELLED) a TEAM or none" */
    private static void notCancelled() {
        HearingDesk x = Desks.fitOnes(1);
        hear(x, 0, 60, 0);
        hear(x, 0, 60, 0);
        Due.is("15: two at once", x.plan(0, false), 1);
        x.cancel(0, 0);
        Due.is("15: one is cancelled", x.plan(0, false), 0);
        Due.planned("16: one alone", x, 1, 0, 0, 0);
        seats("17: the other has its seat too", x, 0, 0);
        x.cancel(1, 0);
        Due.is("15: both are", x.plan(0, false), 0);
        Due.planned("16: none", x, 0, 0, 0, 0);
        seats("17: both have seats still", x, 0, 0);
    }

    /** "A DAY is laid out: how many HEARINGS are without a TEAM": of a DAY without HEARINGS none, without PERSONS all */
    private static void noneToPlan() {
        HearingDesk x = new HearingDesk();
        Due.is("15: no hearings", x.plan(0, false), 0);
        for (int h = 0; h < 4; h++) {
            x.hearing(h, 1, 0, 60 + 20 * h, 0, 1, 1);
        }
        Due.is("15: those of the day behind", x.plan(0, true), 0);
        Due.is("15: no persons", x.plan(1, true), 4);
        Due.planned("16: no persons", x, 4, 4, 0, 0);
        Due.is("15: those of the day ahead", x.plan(2, true), 0);
    }

    /** The most HEARINGS of a DAY, and the most TEAMS of each */
    private static void fourToPlan() {
        HearingDesk x = Desks.fitOnes(5);
        for (int h = 0; h < 4; h++) {
            hear(x, 300 * h, 100, 0);
        }
        Due.is("15: four pairs", x.plan(0, false), 0);
        for (int h = 0; h < 4; h++) {
            Due.is("17: first of " + h, x.seat(h, 0), 0);
            Due.is("17: second of " + h, x.seat(h, 1), 1);
        }
        for (int h = 0; h < 4; h++) {
            x.move(h, 0, 300);
        }
        Due.is("15: four pairs at once", x.plan(0, false), 2);
        Due.planned("16: four at once", x, 4, 2, 6, 0);
        seats("17: the first two", x, 0, 2, NONE, NONE);
    }

    /** "Best: the fewest HEARINGS without": though JOURNEYS be more, and HEARINGS of lesser numbers have none */
    private static void fewestWithout() {
        HearingDesk x = Desks.fitOnes(1);
        x.rest(0);
        hear(x, 100, 60, 0);
        x.hearing(1, 0, 30, 10, 1, 1, 3);
        x.way(0, 1, 100);
        Due.is("15: the near one", x.plan(0, false), 1);
        seats("17: the near one", x, 0, NONE);
        hear(x, 150, 10, 1);
        Due.is("15: the far ones", x.plan(0, true), 1);
        seats("17: the far ones", x, NONE, 0, 0);
        Due.planned("16: the far ones", x, 3, 1, 1, 200);
    }

    /** "of these, if it is to KEEP, the fewest CHANGES": ahead of JOURNEYS and of the order; else they don't matter */
    private static void changesIfToKeep() {
        HearingDesk x = Desks.fitOnes(2);
        x.person(1);
        Desks.fit(x, 2);
        x.way(0, 1, 300);
        hear(x, 0, 60, 1);
        x.bar(0, 0, true);
        x.bar(2, 0, true);
        x.plan(0, false);
        seats("17: 1 alone is fit", x, 1);
        x.bar(0, 0, false);
        x.bar(2, 0, false);
        Due.is("15: to keep", x.plan(0, true), 0);
        seats("17: 1 is kept", x, 1);
        Due.planned("16: to keep", x, 1, 0, 0, 600);
        Due.is("15: not to keep", x.plan(0, false), 0);
        seats("17: 2 is at home", x, 2);
        Due.planned("16: not to keep", x, 1, 0, 1, 0);
    }

    /** "the fewest HEARINGS without; of these, if it is to KEEP, the fewest CHANGES" */
    private static void changesBelowWithout() {
        HearingDesk x = Desks.fitOnes(2);
        x.hearing(0, 0, 0, 60, 0, 1, 3);
        x.plan(0, true);
        x.hearing(1, 0, 0, 60, 0, 1, 3);
        x.bar(1, 1, true);
        Due.is("15: both have one", x.plan(0, true), 0);
        seats("17: 0 goes to 1", x, 1, 0);
        Due.planned("16: a change", x, 2, 0, 1, 0);
        x.bar(1, 0, true);
        Due.is("15: one of them", x.plan(0, true), 1);
        seats("17: 0 is kept in 1", x, NONE, 0);
        Due.planned("16: a change again", x, 2, 1, 1, 0);
    }

    /** "CHANGES: PERSONS of the SEATS as they were who don't sit in that HEARING any more" */
    private static void changesOfPersons() {
        HearingDesk x = Desks.fitOnes(4);
        hear(x, 0, 100, 0);
        x.plan(0, true);
        Due.planned("16: who came is no change", x, 1, 0, 0, 0);
        x.bar(1, 0, true);
        x.plan(0, true);
        Due.planned("16: one of two", x, 1, 0, 1, 0);
        Due.is("17: first", x.seat(0, 0), 0);
        Due.is("17: second", x.seat(0, 1), 2);
        x.bar(1, 0, false);
        x.bar(0, 0, true);
        x.bar(2, 0, true);
        x.plan(0, true);
        Due.planned("16: both", x, 1, 0, 2, 0);
        x.bar(1, 0, true);
        x.plan(0, true);
        Due.planned("16: both, and none comes", x, 1, 1, 2, 0);
        x.plan(0, true);
        Due.planned("16: none was there", x, 1, 1, 0, 0);
    }

    /** "who don't sit in that HEARING any more": in another SEAT of it is none, in another HEARING is one */
    private static void changesOfSwappedSeats() {
        HearingDesk x = new HearingDesk();
        for (int p = 0; p < 2; p++) {
            x.person(0);
            x.paper(p, 5, 1, 0, 999);
            x.paper(p, 0, 1, p, p);
            x.paper(p, 1, 1, 1 - p, 1 - p);
        }
        x.hearing(0, 0, 0, 60, 0, 1, 1);
        x.plan(0, true);
        Due.is("17: X is 0", x.seat(0, 0), 0);
        x.move(0, 1, 0);
        x.plan(1, true);
        Due.is("17: X is 1", x.seat(0, 0), 1);
        Due.is("17: Y is 0", x.seat(0, 1), 0);
        Due.planned("16: the same two", x, 1, 0, 0, 0);
        HearingDesk y = Desks.fitOnes(2);
        y.hearing(0, 0, 0, 60, 0, 1, 3);
        y.hearing(1, 0, 0, 60, 0, 1, 3);
        y.plan(0, true);
        y.bar(0, 0, true);
        y.plan(0, true);
        seats("17: in each other's", y, 1, 0);
        Due.planned("16: in each other's", y, 2, 0, 2, 0);
    }

    /** "of these the least sum of JOURNEYS": by a minute, and ahead of the order */
    private static void leastJourneys() {
        HearingDesk x = new HearingDesk();
        for (int p = 0; p < 3; p++) {
            x.person(p);
            Desks.fit(x, p);
        }
        hear(x, 0, 60, 5);
        x.way(1, 5, 59);
        Due.is("15: one of three", x.plan(0, false), 0);
        seats("17: 1 is nearer", x, 1);
        Due.planned("16: 1 is nearer", x, 1, 0, 0, 118);
        x.way(2, 5, 58);
        x.plan(0, false);
        seats("17: 2 is nearer", x, 2);
        x.way(0, 5, 58);
        x.plan(0, false);
        seats("17: 0 is as near", x, 0);
        hear(x, 300, 60, 5);
        hear(x, 600, 60, 2);
        x.plan(0, false);
        // One goes to both at 5, there and back once, and 2 is at home for the third.
        Due.planned("16: by the sum", x, 3, 0, 0, 116);
    }

    /** "if it is to KEEP, the fewest CHANGES ..; of these the least sum of JOURNEYS; of these the first" */
    private static void leastJourneysOfFewestChanges() {
        HearingDesk x = Desks.fitOnes(3);
        x.person(1);
        Desks.fit(x, 3);
        x.person(1);
        Desks.fit(x, 4);
        x.bar(3, 0, true);
        x.bar(4, 0, true);
        hear(x, 0, 100, 1);
        x.plan(0, true);
        Due.planned("16: 0 and 1 come", x, 1, 0, 0, 240);
        x.bar(1, 0, true);
        x.bar(3, 0, false);
        x.bar(4, 0, false);
        Due.is("15: another for 1", x.plan(0, true), 0);
        Due.is("17: 0 is kept", x.seat(0, 0), 0);
        Due.is("17: 3 is at home, and ahead of 4", x.seat(0, 1), 3);
        Due.planned("16: one change", x, 1, 0, 1, 120);
        Due.is("15: not to keep", x.plan(0, false), 0);
        Due.is("17: both at home", x.seat(0, 0), 3);
        Due.planned("16: not to keep", x, 1, 0, 1, 0);
    }

    /** "the HEARING of least number has the TEAM that is first in order": by numbers, not by begin */
    private static void firstTeam() {
        HearingDesk x = Desks.fitOnes(3);
        hear(x, 100, 60, 0);
        hear(x, 90, 60, 0);
        hear(x, 80, 60, 0);
        Due.is("15: three at once", x.plan(0, false), 0);
        seats("17: by numbers", x, 0, 1, 2);
        x.move(1, 0, 500);
        x.plan(0, true);
        seats("17: kept", x, 0, 1, 2);
        x.plan(0, false);
        seats("17: not to keep", x, 0, 0, 1);
        Due.planned("16: two changes", x, 3, 0, 2, 0);
    }

    /** "(none is last)" */
    private static void noneIsLast() {
        HearingDesk x = Desks.fitOnes(1);
        for (int h = 0; h < 4; h++) {
            hear(x, 100 - 10 * h, 60, 0);
        }
        Due.is("15: one of four", x.plan(0, false), 3);
        seats("17: the least number", x, 0, NONE, NONE, NONE);
        x.move(0, 1, 0);
        Due.is("15: one of three", x.plan(0, false), 2);
        seats("17: the least number of the day", x, 0, 0, NONE, NONE);
    }

    /** "The TEAMS are the SEATS then": of those of the DAY, with none too; others stay as they are */
    private static void teamsAreSeats() {
        HearingDesk x = Desks.fitOnes(2);
        hear(x, 0, 91, 0);
        x.hearing(1, 1, 0, 91, 0, 1, 3);
        x.plan(0, false);
        Due.is("17: first", x.seat(0, 0), 0);
        Due.is("17: second", x.seat(0, 1), 1);
        Due.is("17: not of the other day", x.seat(1, 0), NONE);
        x.plan(1, false);
        x.bar(0, 0, true);
        Due.is("17: as it was laid out", x.seat(0, 0), 0);
        Due.is("15: none now", x.plan(0, false), 1);
        Due.is("17: no first", x.seat(0, 0), NONE);
        Due.is("17: no second", x.seat(0, 1), NONE);
        Due.is("17: the other day's first", x.seat(1, 0), 0);
        Due.is("17: the other day's second", x.seat(1, 1), 1);
    }

    /** "(SEATS stay when HEARINGS move, or are CANCELLED.)" */
    private static void seatsStay() {
        HearingDesk x = Desks.fitOnes(2);
        hear(x, 0, 91, 0);
        hear(x, 300, 91, 0);
        x.plan(0, false);
        x.move(0, 999, 1349);
        x.cancel(1, 100000);
        for (int h = 0; h < 2; h++) {
            Due.is("17: first of " + h, x.seat(h, 0), 0);
            Due.is("17: second of " + h, x.seat(h, 1), 1);
        }
        x.plan(0, false);
        Due.planned("16: none there", x, 0, 0, 0, 0);
        Due.is("17: the moved one's as before", x.seat(0, 1), 1);
        Due.is("17: the cancelled one's as before", x.seat(1, 1), 1);
        x.bar(1, 0, true);
        x.plan(999, true);
        Due.planned("16: its seats moved along", x, 1, 1, 2, 0);
        Due.is("17: none", x.seat(0, 0), NONE);
    }

    /** "NONE ahead of any" */
    private static void plannedAheadOfAny() {
        HearingDesk x = Desks.fitOnes(1);
        hear(x, 0, 60, 1);
        x.plan(-1, true);
        x.plan(1000, false);
        Due.planned("16: refused alone", x, NONE, NONE, NONE, NONE);
        x.plan(999, false);
        Due.planned("16: one", x, 0, 0, 0, 0);
    }

    /** "Of the latest plan() that was not NONE"; "CHANGES (also without keep)"; "or for another what" */
    private static void plannedOfTheLatest() {
        HearingDesk x = Desks.fitOnes(1);
        hear(x, 0, 60, 1);
        x.hearing(0, 1, 0, 60, 1, 1, 4);
        x.plan(0, false);
        Due.planned("16: day 0", x, 1, 0, 0, 120);
        x.plan(1000, false);
        x.plan(-1, false);
        Due.planned("16: day 0 still", x, 1, 0, 0, 120);
        x.plan(1, true);
        Due.planned("16: day 1", x, 1, 1, 0, 0);
        x.bar(0, 0, true);
        Due.planned("16: as it was laid out", x, 1, 1, 0, 0);
        x.plan(0, false);
        Due.planned("16: a change without keep", x, 1, 1, 1, 0);
        Due.is("16: what 4", x.planned(4), NONE);
        Due.is("16: what -1", x.planned(-1), NONE);
    }

    /** "SEAT 0 or 1 of a HEARING: the PERSON; NONE" */
    private static void seatOfTwo() {
        HearingDesk x = Desks.busy();
        int[][] due = {{1, NONE}, {0, 1}, {0, 2}, {0, NONE}, {NONE, NONE}, {NONE, NONE}};
        for (int h = 0; h < due.length; h++) {
            Due.is("17: -1 of " + h, x.seat(h, -1), NONE);
            Due.is("17: 0 of " + h, x.seat(h, 0), due[h][0]);
            Due.is("17: 1 of " + h, x.seat(h, 1), due[h][1]);
            Due.is("17: 2 of " + h, x.seat(h, 2), NONE);
        }
        Due.is("17: no hearing", x.seat(-1, 0), NONE);
    }

    /** "spans of 30 MINUTES (the last one perhaps less), the first PERSON's, the second's, and so on" */
    private static void turnsOfLongOnes() {
        for (int length : new int[] {91, 119, 120, 121, 239, 240}) {
            HearingDesk x = Desks.fitOnes(3);
            x.bar(1, 0, true);
            hear(x, 0, length, 0);
            x.plan(0, false);
            for (int span = 0; span < 240; span += 30) {
                for (int m : new int[] {span, span + 29}) {
                    int due = m >= length ? NONE : span % 60 == 0 ? 0 : 2;
                    Due.is("18: of " + length + " at " + m, x.turn(0, m), due);
                }
            }
            Due.is("18: of " + length + ", the last", x.turn(0, length - 1), (length - 1) / 30 % 2 == 0 ? 0 : 2);
            Due.is("18: of " + length + ", beyond", x.turn(0, length), NONE);
            Due.is("18: of " + length + ", ahead", x.turn(0, -1), NONE);
        }
    }

    /** "of one the PERSON, of a RELAY the first": all along */
    private static void turnsOfOthers() {
        HearingDesk x = Desks.busy();
        for (int m = 0; m < 60; m++) {
            Due.is("18: of one at " + m, x.turn(0, m), 1);
            Due.is("18: of a relay at " + m, x.turn(2, m), m < 30 ? 0 : NONE);
        }
        Due.is("18: of one, beyond", x.turn(0, 60), NONE);
        HearingDesk y = Desks.fitOnes(1);
        y.paper(0, 7, 3, 0, 999);
        y.person(0);
        y.paper(1, 7, 3, 0, 999);
        y.paper(1, 9, 3, 0, 999);
        hear(y, 0, 90, 0);
        y.hearing(0, 0, 500, 90, 0, 9, 3);
        y.plan(0, false);
        for (int m : new int[] {0, 29, 30, 59, 60, 89, 90}) {
            Due.is("18: of one for 90 at " + m, y.turn(0, m), m < 90 ? 0 : NONE);
            Due.is("18: of a relay for 90 at " + m, y.turn(1, m), m < 90 ? 0 : NONE);
        }
    }

    /** "NONE without SEATS" */
    private static void turnsWithoutSeats() {
        HearingDesk x = Desks.fitOnes(1);
        hear(x, 0, 91, 0);
        hear(x, 0, 60, 0);
        for (int round = 0; round < 2; round++) {
            for (int m : new int[] {0, 30, 59}) {
                Due.is("18: no pair at " + m, x.turn(0, m), NONE);
                Due.is("18: in round " + round + " at " + m, x.turn(1, m), round == 0 ? NONE : 0);
            }
            x.plan(0, false);
        }
        Due.is("18: none such", x.turn(2, 0), NONE);
        Due.is("18: none such -1", x.turn(-1, 0), NONE);
    }

    /** "JOURNEYS of a PERSON on a DAY by the SEATS now (HEARINGS not CANCELLED)" */
    private static void journeysBySeatsNow() {
        HearingDesk x = Desks.fitOnes(2);
        hear(x, 0, 60, 1);
        Due.is("19: ahead of a plan", x.journeys(0, 0), 0);
        x.plan(0, false);
        Due.is("19: laid out", x.journeys(0, 0), 120);
        Due.is("19: who does not sit", x.journeys(1, 0), 0);
        x.way(0, 1, 300);
        Due.is("19: by the way now", x.journeys(0, 0), 600);
        Due.is("16: by the way then", x.planned(3), 120);
        x.move(0, 999, 0);
        Due.is("19: the day it left", x.journeys(0, 0), 0);
        Due.is("19: the day it came to", x.journeys(0, 999), 600);
        x.cancel(0, 0);
        Due.is("19: cancelled", x.journeys(0, 999), 0);
        Due.is("19: no person", x.journeys(2, 0), NONE);
    }
}
