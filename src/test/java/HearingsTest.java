/** Promises 10 to 14: hearings come, move, are cancelled, and have teams. */
public final class HearingsTest {
    private static final int NONE = HearingDesk.NONE;

    public static void main(String[] args) {
        comings();
        manyHearings();
        moves();
        cancellings();
        singles();
        pairs();
        relays();
        relayByTheFirstTongue();
        Due.end();
    }

    private static void comings() {
        HearingDesk x = new HearingDesk();
        Due.is("10: no case 20", x.hearing(20, 0, 0, 10, 0, 1, 1), NONE);
        Due.is("10: no case -1", x.hearing(-1, 0, 0, 10, 0, 1, 1), NONE);
        Due.is("10: no day 1000", x.hearing(0, 1000, 0, 10, 0, 1, 1), NONE);
        Due.is("10: no day -1", x.hearing(0, -1, 0, 10, 0, 1, 1), NONE);
        Due.is("10: no begin -1", x.hearing(0, 0, -1, 10, 0, 1, 1), NONE);
        Due.is("10: no begin 1440", x.hearing(0, 0, 1440, 10, 0, 1, 1), NONE);
        Due.is("10: beyond 1440", x.hearing(0, 0, 1431, 10, 0, 1, 1), NONE);
        Due.is("10: too short", x.hearing(0, 0, 0, 9, 0, 1, 1), NONE);
        Due.is("10: too long", x.hearing(0, 0, 0, 241, 0, 1, 1), NONE);
        Due.is("10: very long", x.hearing(0, 0, 1439, Integer.MAX_VALUE, 0, 1, 1), NONE);
        Due.is("10: no town 6", x.hearing(0, 0, 0, 10, 6, 1, 1), NONE);
        Due.is("10: no town -1", x.hearing(0, 0, 0, 10, -1, 1, 1), NONE);
        Due.is("10: in the court's tongue", x.hearing(0, 0, 0, 10, 0, 0, 1), NONE);
        Due.is("10: no tongue 10", x.hearing(0, 0, 0, 10, 0, 10, 1), NONE);
        Due.is("10: no grade 0", x.hearing(0, 0, 0, 10, 0, 1, 0), NONE);
        Due.is("10: no grade 6", x.hearing(0, 0, 0, 10, 0, 1, 6), NONE);
        Due.is("10: none came", x.count(2), 0);
        Due.is("10: the last minutes", x.hearing(19, 999, 1430, 10, 5, 9, 5), 0);
        Due.is("10: the longest", x.hearing(0, 999, 1200, 240, 0, 1, 1), 1);
        Due.is("10: a third", x.hearing(0, 999, 1200, 240, 0, 1, 1), 2);
        Due.is("10: a fourth", x.hearing(0, 999, 1200, 240, 0, 1, 1), 3);
        Due.is("10: a fifth of the day", x.hearing(0, 999, 0, 240, 0, 1, 1), NONE);
        Due.is("10: another day", x.hearing(0, 998, 0, 240, 0, 1, 1), 4);
        x.cancel(2, 0);
        Due.is("10: one of four is cancelled", x.hearing(0, 999, 0, 240, 0, 1, 1), 5);
        Due.is("10: a fifth again", x.hearing(0, 999, 0, 240, 0, 1, 1), NONE);
    }

    private static void manyHearings() {
        HearingDesk x = new HearingDesk();
        for (int i = 0; i < 24; i++) {
            Due.is("10: hearing " + i, x.hearing(0, i, 0, 10, 0, 1, 1), i);
        }
        Due.is("10: a 25th", x.hearing(0, 100, 0, 10, 0, 1, 1), NONE);
        x.cancel(0, 0);
        Due.is("10: cancelled ones count", x.hearing(0, 100, 0, 10, 0, 1, 1), NONE);
        Due.is("10: 24", x.count(2), 24);
    }

    private static void moves() {
        HearingDesk x = new HearingDesk();
        x.person(1);
        x.paper(0, 0, 5, 0, 10);
        x.paper(0, 1, 5, 0, 10);
        x.hearing(0, 5, 0, 60, 0, 1, 1);
        Due.is("11: none such", x.move(1, 5, 0), false);
        Due.is("11: -1", x.move(-1, 5, 0), false);
        Due.is("11: no day", x.move(0, 1000, 0), false);
        Due.is("11: no day -1", x.move(0, -1, 0), false);
        Due.is("11: no minute", x.move(0, 5, -1), false);
        Due.is("11: no minute 1440", x.move(0, 5, 1440), false);
        Due.is("11: beyond the day", x.move(0, 5, 1381), false);
        Due.is("11: the end of the day", x.move(0, 5, 1380), true);
        x.plan(5, false);
        Due.is("11: behind the papers", x.move(0, 11, 0), true);
        Due.is("11: fit by the new day", x.teams(0), 0);
        Due.is("11: seats stay", x.seat(0, 0), 0);
        Due.is("11: journeys there", x.journeys(0, 11), 120);
        Due.is("11: and none here", x.journeys(0, 5), 0);
        for (int i = 1; i <= 4; i++) {
            x.hearing(0, 20, 0, 60, 0, 1, 1);
        }
        Due.is("11: four there", x.move(0, 20, 0), false);
        Due.is("11: one of the four on its day", x.move(4, 20, 100), true);
        x.cancel(1, 0);
        Due.is("11: a cancelled one makes room", x.move(0, 20, 0), true);
        Due.is("11: cancelled", x.move(1, 30, 0), false);
        Due.is("11: the day it left has room", x.hearing(0, 11, 0, 60, 0, 1, 1), 5);
        Due.is("11: the day it came to has none", x.hearing(0, 20, 0, 60, 0, 1, 1), NONE);
    }

    private static void cancellings() {
        HearingDesk x = new HearingDesk();
        x.hearing(0, 5, 0, 60, 0, 1, 1);
        x.hearing(0, 5, 0, 60, 0, 1, 1);
        Due.is("12: none such", x.cancel(2, 0), false);
        Due.is("12: -1", x.cancel(-1, 0), false);
        Due.is("12: below 0", x.cancel(0, -1), false);
        Due.is("12: above", x.cancel(0, 100001), false);
        Due.is("12: nothing happened", x.count(3), 0);
        Due.is("12: the most", x.cancel(0, 100000), true);
        Due.is("12: already", x.cancel(0, 0), false);
        Due.is("12: the least", x.cancel(1, 0), true);
        Due.is("12: two", x.count(3), 2);
        Due.is("12: they are there still", x.count(2), 2);
        Due.is("12: and have teams", x.teams(0), 0);
        Due.is("12: none to plan", x.plan(5, false), 0);
        Due.is("12: none planned", x.planned(0), 0);
    }

    /** A desk with persons 0 to 4, each of grade 3 in the court's tongue. */
    private static HearingDesk courtly() {
        HearingDesk x = new HearingDesk();
        for (int p = 0; p < 5; p++) {
            x.person(0);
            x.paper(p, 0, 3, 0, 999);
        }
        return x;
    }

    private static void team(String label, HearingDesk x, int hearing, int i, int... want) {
        for (int what = 0; what < 3; what++) {
            Due.is(label + ", team " + i + " what " + what, x.team(hearing, i, what), want[what]);
        }
    }

    private static void singles() {
        HearingDesk x = courtly();
        x.hearing(7, 50, 0, 90, 0, 2, 3);
        Due.is("13: none", x.teams(0), 0);
        x.paper(4, 2, 3, 50, 50);
        x.paper(1, 2, 5, 0, 50);
        x.paper(0, 2, 2, 0, 999);
        x.paper(2, 2, 5, 51, 999);
        x.paper(3, 1, 4, 0, 999);
        Due.is("13: two fit", x.teams(0), 2);
        team("14: single", x, 0, 0, 1, NONE, NONE);
        team("14: single", x, 0, 1, 4, NONE, NONE);
        team("14: beyond", x, 0, 2, NONE, NONE, NONE);
        team("14: below", x, 0, -1, NONE, NONE, NONE);
        x.dialect(2, 1);
        Due.is("13: by dialect too", x.teams(0), 3);
        team("14: by numbers", x, 0, 1, 3, NONE, NONE);
        x.bar(1, 7, true);
        Due.is("13: one is barred", x.teams(0), 2);
        team("14: barred", x, 0, 0, 3, NONE, NONE);
        x.withdraw(4, 49);
        Due.is("13: 4's court paper", x.teams(0), 1);
        Due.is("13: no hearing", x.teams(1), NONE);
        Due.is("13: no hearing -1", x.teams(-1), NONE);
        Due.is("14: no hearing", x.team(1, 0, 0), NONE);
        Due.is("14: no hearing -1", x.team(-1, 0, 0), NONE);
        Due.is("14: another what", x.team(0, 0, 3), NONE);
        Due.is("14: another what -1", x.team(0, 0, -1), NONE);
    }

    private static void pairs() {
        HearingDesk x = courtly();
        x.hearing(7, 50, 0, 91, 0, 2, 3);
        x.paper(3, 2, 3, 0, 999);
        x.paper(1, 4, 3, 0, 999);
        x.paper(2, 4, 3, 0, 999);
        x.paper(2, 2, 2, 0, 999);
        Due.is("13: one alone is no pair", x.teams(0), 0);
        x.paper(0, 2, 3, 0, 999);
        Due.is("13: one pair", x.teams(0), 1);
        team("14: pair", x, 0, 0, 0, 3, NONE);
        x.paper(2, 2, 3, 0, 999);
        Due.is("13: three pairs", x.teams(0), 3);
        team("14: pair", x, 0, 0, 0, 2, NONE);
        team("14: pair", x, 0, 1, 0, 3, NONE);
        team("14: pair", x, 0, 2, 2, 3, NONE);
        x.paper(1, 2, 3, 0, 999);
        x.paper(4, 2, 3, 0, 999);
        Due.is("13: ten pairs", x.teams(0), 10);
        team("14: the last pair", x, 0, 9, 3, 4, NONE);
    }

    private static void relays() {
        HearingDesk x = new HearingDesk();
        for (int p = 0; p < 5; p++) {
            x.person(0);
        }
        x.paper(3, 0, 3, 0, 999);
        x.paper(3, 8, 3, 0, 999);
        x.paper(3, 5, 3, 0, 999);
        x.paper(1, 0, 4, 0, 999);
        x.paper(1, 8, 4, 0, 999);
        x.paper(0, 2, 3, 0, 999);
        x.paper(0, 8, 3, 0, 999);
        x.paper(4, 2, 3, 0, 999);
        x.paper(4, 5, 3, 0, 999);
        x.paper(4, 8, 5, 0, 999);
        x.hearing(7, 50, 0, 90, 0, 2, 3);
        x.hearing(7, 50, 0, 91, 0, 2, 3);
        Due.is("13: relays", x.teams(0), 4);
        team("14: relay", x, 0, 0, 1, 0, 8);
        team("14: relay", x, 0, 1, 1, 4, 8);
        team("14: relay", x, 0, 2, 3, 0, 8);
        team("14: the least tongue", x, 0, 3, 3, 4, 5);
        Due.is("13: long ones have no relays", x.teams(1), 0);
        x.bar(0, 7, true);
        Due.is("13: second barred", x.teams(0), 2);
        x.bar(1, 7, true);
        Due.is("13: first barred", x.teams(0), 1);
        x.bar(0, 7, false);
        x.bar(1, 7, false);
        x.paper(2, 0, 3, 0, 999);
        x.paper(2, 2, 3, 0, 999);
        Due.is("13: one is fit, no relays", x.teams(0), 1);
        team("14: the fit one", x, 0, 0, 2, NONE, NONE);
        x.bar(2, 7, true);
        Due.is("13: relays again", x.teams(0), 4);
    }

    /** Person 0 first, tongue 1 between; the teams are looked at without asking how many there are. */
    private static void relayByTheFirstTongue() {
        HearingDesk x = new HearingDesk();
        int[][] papers = {{0, 0}, {0, 1}, {0, 9}, {4, 1}, {4, 9}, {4, 2}};
        for (int p = 0; p < 5; p++) {
            x.person(0);
        }
        for (int[] paper : papers) {
            x.paper(paper[0], paper[1], 2, 0, 999);
        }
        x.hearing(3, 0, 0, 10, 0, 2, 2);
        x.hearing(3, 0, 0, 10, 0, 5, 2);
        team("14: relay by 1", x, 0, 0, 0, 4, 1);
        team("14: no such", x, 1, 0, NONE, NONE, NONE);
        x.withdraw(1, 0);
        x.move(0, 1, 0);
        team("14: relay by 9", x, 0, 0, 0, 4, 9);
        Due.is("13: one relay", x.teams(0), 1);
        x.withdraw(2, 0);
        Due.is("13: the hearing's own tongue is not between", x.teams(0), 0);
    }
}
