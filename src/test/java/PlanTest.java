/** Promises 15 to 19: plans, seats, turns and journeys. */
public final class PlanTest {
    private static final int NONE = HearingDesk.NONE;

    public static void main(String[] args) {
        days();
        fewestWithout();
        rests();
        ways();
        throughAMiddleOne();
        keeping();
        keepingIsBelowWithout();
        keepingThenJourneys();
        leastJourneys();
        firstInOrder();
        seatsAndTurns();
        relaySeats();
        journeys();
        Due.end();
    }

    private static void days() {
        HearingDesk x = Desks.fitOnes(1);
        Due.is("15: no day -1", x.plan(-1, false), NONE);
        Due.is("15: no day 1000", x.plan(1000, true), NONE);
        Due.is("16: ahead of any", x.planned(0), NONE);
        Due.is("15: no hearings", x.plan(999, true), 0);
        Due.planned("16: no hearings", x, 0, 0, 0, 0);
        x.hearing(0, 0, 0, 10, 1, 1, 3);
        x.hearing(0, 1, 0, 10, 1, 1, 4);
        Due.is("15: none can", x.plan(1, false), 1);
        Due.planned("16: none can", x, 1, 1, 0, 0);
        Due.is("15: one can", x.plan(0, false), 0);
        Due.planned("16: one can", x, 1, 0, 0, 120);
        Due.is("17: another day's stays as it is", x.seat(1, 0), NONE);
        Due.is("15: none again", x.plan(1000, false), NONE);
        Due.planned("16: the latest that was not NONE", x, 1, 0, 0, 120);
        Due.is("16: another what", x.planned(4), NONE);
        Due.is("16: another what -1", x.planned(-1), NONE);
    }

    private static void fewestWithout() {
        HearingDesk x = Desks.fitOnes(1);
        x.rest(0);
        x.hearing(0, 0, 0, 60, 0, 1, 3);
        x.hearing(0, 0, 0, 30, 0, 1, 3);
        x.hearing(0, 0, 30, 30, 0, 1, 3);
        Due.is("15: two short ones, not the first", x.plan(0, false), 1);
        Due.is("17: 0", x.seat(0, 0), NONE);
        Due.is("17: 1", x.seat(1, 0), 0);
        Due.is("17: 2", x.seat(2, 0), 0);
        x.cancel(1, 0);
        Due.is("15: one of two", x.plan(0, false), 1);
        Due.is("17: 0 is first", x.seat(0, 0), 0);
        Due.is("17: cancelled ones keep their seats", x.seat(1, 0), 0);
        Due.is("17: 2 is without now", x.seat(2, 0), NONE);
        Due.planned("16: changes also without keep", x, 2, 1, 1, 0);
    }

    private static void rests() {
        HearingDesk x = Desks.fitOnes(1);
        x.hearing(0, 0, 0, 60, 0, 1, 3);
        x.hearing(0, 0, 90, 60, 0, 1, 3);
        Due.is("15: just the rest", x.plan(0, false), 0);
        x.rest(31);
        Due.is("15: more rest", x.plan(0, false), 1);
        x.rest(0);
        x.move(1, 0, 60);
        Due.is("15: no rest", x.plan(0, false), 0);
        x.move(1, 0, 59);
        Due.is("15: a minute of both", x.plan(0, false), 1);
        x.move(0, 0, 119);
        Due.is("15: 1 ahead of 0", x.plan(0, false), 0);
        x.move(0, 0, 118);
        Due.is("15: a minute of both again", x.plan(0, false), 1);
    }

    private static void ways() {
        HearingDesk x = Desks.fitOnes(1);
        x.rest(0);
        x.way(1, 2, 45);
        x.hearing(0, 0, 0, 60, 2, 1, 3);
        x.hearing(0, 0, 105, 60, 1, 1, 3);
        Due.is("15: just the way", x.plan(0, false), 0);
        Due.planned("16: journeys", x, 2, 0, 0, 165);
        x.way(1, 2, 46);
        Due.is("15: a longer way", x.plan(0, false), 1);
        Due.planned("16: one alone", x, 2, 1, 1, 120);
    }

    /** From 1 to 3 is far, but by way of 2 the chain holds. */
    private static void throughAMiddleOne() {
        HearingDesk x = Desks.fitOnes(1);
        x.rest(0);
        x.way(1, 3, 300);
        x.way(1, 2, 0);
        x.way(2, 3, 0);
        x.hearing(0, 0, 0, 60, 1, 1, 3);
        x.hearing(0, 0, 120, 60, 3, 1, 3);
        Due.is("15: too far", x.plan(0, false), 1);
        x.hearing(0, 0, 70, 40, 2, 1, 3);
        Due.is("15: by a town between", x.plan(0, false), 0);
        Due.planned("16: all three", x, 3, 0, 0, 120);
    }

    private static void keeping() {
        HearingDesk x = Desks.fitOnes(2);
        x.bar(0, 5, true);
        x.hearing(5, 0, 0, 60, 1, 1, 3);
        x.plan(0, false);
        Due.is("17: 1 sits, 0 is barred", x.seat(0, 0), 1);
        x.bar(0, 5, false);
        Due.is("15: keep", x.plan(0, true), 0);
        Due.is("17: 1 stays", x.seat(0, 0), 1);
        Due.planned("16: keep", x, 1, 0, 0, 120);
        Due.is("15: without keep", x.plan(0, false), 0);
        Due.is("17: 0 is first", x.seat(0, 0), 0);
        Due.planned("16: without keep", x, 1, 0, 1, 120);
        x.person(1);
        Desks.fit(x, 2);
        Due.is("15: keep ahead of journeys", x.plan(0, true), 0);
        Due.is("17: 0 stays", x.seat(0, 0), 0);
        x.plan(0, false);
        Due.is("17: 2 has no journeys", x.seat(0, 0), 2);
        Due.planned("16: no journeys", x, 1, 0, 1, 0);
        x.move(0, 9, 0);
        x.bar(2, 5, true);
        x.bar(1, 5, true);
        x.bar(0, 5, true);
        Due.is("15: nobody on the new day", x.plan(9, true), 1);
        Due.planned("16: seats went along", x, 1, 1, 1, 0);
        Due.is("17: nobody", x.seat(0, 0), NONE);
    }

    private static void keepingIsBelowWithout() {
        HearingDesk x = Desks.fitOnes(2);
        x.hearing(0, 0, 0, 60, 0, 1, 3);
        x.hearing(1, 0, 30, 60, 0, 1, 3);
        x.bar(1, 0, true);
        x.bar(1, 1, true);
        Due.is("15: one is left", x.plan(0, true), 1);
        Due.is("17: 0 in the first", x.seat(0, 0), 0);
        x.bar(1, 0, false);
        Due.is("15: none is left", x.plan(0, true), 0);
        Due.is("17: 1 in the first", x.seat(0, 0), 1);
        Due.is("17: 0 in the second", x.seat(1, 0), 0);
        Due.planned("16: one change", x, 2, 0, 1, 0);
    }

    /** Who sat is barred: whoever comes is one change, and the nearer one comes. */
    private static void keepingThenJourneys() {
        HearingDesk x = Desks.fitOnes(2);
        x.person(1);
        Desks.fit(x, 2);
        x.hearing(0, 0, 0, 60, 0, 1, 3);
        x.plan(0, false);
        Due.is("17: 0 sits", x.seat(0, 0), 0);
        x.bar(0, 0, true);
        x.hearing(1, 0, 300, 60, 1, 1, 3);
        Due.is("15: both", x.plan(0, true), 0);
        Due.is("17: 1 is near", x.seat(0, 0), 1);
        Due.is("17: 2 is near", x.seat(1, 0), 2);
        Due.planned("16: equal changes", x, 2, 0, 1, 0);
    }

    private static void leastJourneys() {
        HearingDesk x = new HearingDesk();
        x.person(0);
        x.person(1);
        Desks.fit(x, 0);
        Desks.fit(x, 1);
        x.hearing(0, 0, 0, 60, 1, 1, 3);
        x.hearing(0, 0, 300, 60, 0, 1, 3);
        Due.is("15: each at home", x.plan(0, false), 0);
        Due.planned("16: no journeys", x, 2, 0, 0, 0);
        Due.is("17: 1 at home", x.seat(0, 0), 1);
        Due.is("17: 0 at home", x.seat(1, 0), 0);
        x.bar(0, 0, true);
        x.plan(0, false);
        Due.planned("16: there and back", x, 2, 0, 1, 120);
        Due.is("17: 1 in both", x.seat(1, 0), 1);
    }

    private static void firstInOrder() {
        HearingDesk x = Desks.fitOnes(3);
        x.hearing(0, 0, 60, 60, 0, 1, 3);
        x.hearing(0, 0, 60, 60, 0, 1, 3);
        x.hearing(0, 0, 0, 30, 0, 1, 3);
        x.hearing(0, 0, 600, 100, 0, 1, 3);
        Due.is("15: all", x.plan(0, false), 0);
        Due.is("17: 0 by 0", x.seat(0, 0), 0);
        Due.is("17: 1 by 1", x.seat(1, 0), 1);
        Due.is("17: 2 by 0", x.seat(2, 0), 0);
        Due.is("17: 3 by 0", x.seat(3, 0), 0);
        Due.is("17: 3 by 1 too", x.seat(3, 1), 1);
    }

    private static void seatsAndTurns() {
        HearingDesk x = Desks.fitOnes(2);
        x.hearing(0, 0, 0, 100, 0, 1, 3);
        x.hearing(0, 0, 200, 90, 0, 1, 3);
        Due.is("17: ahead of a plan", x.seat(0, 0), NONE);
        Due.is("18: without seats", x.turn(0, 0), NONE);
        Due.is("18: without second seat", x.turn(0, 30), NONE);
        x.plan(0, false);
        Due.is("17: first", x.seat(0, 0), 0);
        Due.is("17: second", x.seat(0, 1), 1);
        Due.is("17: one alone", x.seat(1, 0), 0);
        Due.is("17: no second", x.seat(1, 1), NONE);
        Due.is("17: no seat 2", x.seat(0, 2), NONE);
        Due.is("17: no seat -1", x.seat(0, -1), NONE);
        Due.is("17: no hearing", x.seat(2, 0), NONE);
        Due.is("17: no hearing -1", x.seat(-1, 0), NONE);
        int[][] turns = {{-1, NONE}, {0, 0}, {29, 0}, {30, 1}, {59, 1}, {60, 0}, {89, 0}, {90, 1}, {99, 1}, {100, NONE}};
        for (int[] turn : turns) {
            Due.is("18: minute " + turn[0], x.turn(0, turn[0]), turn[1]);
        }
        Due.is("18: of one", x.turn(1, 45), 0);
        Due.is("18: of one, the last minute", x.turn(1, 89), 0);
        Due.is("18: of one, beyond", x.turn(1, 90), NONE);
        Due.is("18: no hearing", x.turn(2, 0), NONE);
        Due.is("18: no hearing -1", x.turn(-1, 0), NONE);
        x.cancel(0, 5);
        Due.is("18: cancelled", x.turn(0, 30), 1);
        Due.is("17: cancelled", x.seat(0, 1), 1);
    }

    private static void relaySeats() {
        HearingDesk x = new HearingDesk();
        x.person(0);
        x.person(0);
        x.paper(0, 1, 3, 0, 999);
        x.paper(0, 2, 3, 0, 999);
        x.paper(1, 0, 3, 0, 999);
        x.paper(1, 2, 3, 0, 999);
        x.hearing(0, 0, 0, 90, 3, 1, 3);
        Due.is("15: by relay", x.plan(0, false), 0);
        Due.planned("16: both go", x, 1, 0, 0, 240);
        Due.is("17: relay's first", x.seat(0, 0), 1);
        Due.is("17: relay's second", x.seat(0, 1), 0);
        Due.is("18: relay, first minute", x.turn(0, 0), 1);
        Due.is("18: relay, the first all along", x.turn(0, 30), 1);
        x.paper(1, 1, 3, 0, 999);
        x.plan(0, true);
        Due.is("17: one alone now", x.seat(0, 0), 1);
        Due.is("17: no second now", x.seat(0, 1), NONE);
        Due.planned("16: the other left", x, 1, 0, 1, 120);
    }

    private static void journeys() {
        HearingDesk x = Desks.fitOnes(2);
        x.way(0, 1, 10);
        x.way(1, 2, 20);
        x.way(0, 2, 40);
        x.bar(1, 0, true);
        x.hearing(0, 0, 300, 60, 2, 1, 3);
        x.hearing(0, 0, 0, 60, 1, 1, 3);
        x.hearing(0, 1, 0, 60, 2, 1, 3);
        Due.is("19: ahead of a plan", x.journeys(0, 0), 0);
        x.plan(0, false);
        x.plan(1, false);
        Due.is("19: by begin", x.journeys(0, 0), 70);
        Due.is("19: who sits nowhere", x.journeys(1, 0), 0);
        Due.is("19: another day", x.journeys(0, 1), 80);
        x.move(2, 0, 0);
        Due.is("19: of one begin by numbers", x.journeys(0, 0), 10 + 20 + 0 + 40);
        x.move(2, 0, 350);
        x.move(0, 0, 100);
        x.move(1, 0, 350);
        Due.is("19: 0, then 1, then 2", x.journeys(0, 0), 40 + 20 + 20 + 40);
        x.cancel(1, 0);
        Due.is("19: without the cancelled one", x.journeys(0, 0), 40 + 0 + 40);
        x.way(0, 2, 41);
        Due.is("19: by the ways now", x.journeys(0, 0), 82);
        Due.is("19: no person", x.journeys(2, 0), NONE);
        Due.is("19: no person -1", x.journeys(-1, 0), NONE);
        Due.is("19: no day", x.journeys(0, 1000), NONE);
        Due.is("19: no day -1", x.journeys(0, -1), NONE);
    }
}
