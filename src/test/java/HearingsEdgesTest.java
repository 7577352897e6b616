/**
 * The Terms II and the promises 10 to 14: a test for each sentence that names an edge, with the sentence above it.
 * RangesTest has each argument's bounds.
 */
public final class HearingsEdgesTest {
    private static final int NONE = HearingDesk.NONE;

    public static void main(String[] args) {
        notBeyondTheDay();
        twentyFour();
        fourOfADay();
        fourButForCancelled();
        fourButForMoved();
        movedNotBeyondTheDay();
        movedToAFullDay();
        movedOnItsOwnDay();
        cancelledStays();
        cancelledOnce();
        fitByBothGrades();
        bothOfAPairFit();
        fitOnItsDay();
        fitIfNotBarred();
        longAboveNinety();
        pairsInOrder();
        onesInOrder();
        relaysWhereNoneIsFit();
        relaysInOrder();
        relayByAnotherTongue();
        relayByTheLeastTongue();
        relayGrades();
        relayNotBarred();
        relayOfTwo();
        teamParts();
        Due.end();
    }

    /** Persons of town 0; each row is a paper for all days: the person, the tongue, the grade. */
    private static HearingDesk desk(int persons, int[]... papers) {
        HearingDesk x = new HearingDesk();
        for (int p = 0; p < persons; p++) {
            x.person(0);
        }
        for (int[] n : papers) {
            x.paper(n[0], n[1], n[2], 0, 999);
        }
        return x;
    }

    private static int[] row(int... n) {
        return n;
    }

    /** All teams of a hearing in their order, what 0, 1 and 2 of each. */
    private static void teams(String label, HearingDesk x, int hearing, int[]... want) {
        Due.is(label + ", how many", x.teams(hearing), want.length);
        for (int i = 0; i < want.length; i++) {
            for (int what = 0; what < 3; what++) {
                Due.is(label + ", team " + i + " what " + what, x.team(hearing, i, what), want[i][what]);
            }
        }
        Due.is(label + ", behind the last", x.team(hearing, want.length, 0), NONE);
    }

    /** "length (10 to 240, not beyond 1440)" */
    private static void notBeyondTheDay() {
        for (int length : new int[] {9, 10, 11, 239, 240, 241}) {
            for (int end = 1439; end <= 1441; end++) {
                HearingDesk x = new HearingDesk();
                boolean isOne = length >= 10 && length <= 240 && end <= 1440;
                String label = "10: " + length + " to " + end;
                Due.is(label, x.hearing(0, 0, end - length, length, 0, 1, 1), isOne ? 0 : NONE);
                Due.is(label + ", hearings", x.count(2), isOne ? 1 : 0);
            }
        }
        Due.is("10: the last minute", new HearingDesk().hearing(0, 0, 1439, 10, 0, 1, 1), NONE);
        Due.is("10: no minute", new HearingDesk().hearing(0, 0, 1440, 10, 0, 1, 1), NONE);
        Due.is("10: the first minute", new HearingDesk().hearing(0, 0, 0, 240, 0, 1, 1), 0);
    }

    /** "A HEARING comes: its number; NONE: 24": what is refused takes no number, and a CANCELLED one keeps its own */
    private static void twentyFour() {
        HearingDesk x = new HearingDesk();
        for (int h = 0; h < 24; h++) {
            Due.is("10: refused ahead of " + h, x.hearing(0, h, 0, 9, 0, 1, 1), NONE);
            Due.is("10: hearing " + h, x.hearing(0, h, 0, 10, 0, 1, 1), h);
        }
        Due.is("10: a 25th", x.hearing(0, 500, 0, 10, 0, 1, 1), NONE);
        x.cancel(23, 0);
        Due.is("10: a 25th, one is cancelled", x.hearing(0, 500, 0, 10, 0, 1, 1), NONE);
        Due.is("10: 24", x.count(2), 24);
        Due.is("10: none on that day", x.plan(500, false) + x.planned(0), 0);
        Twins.unchanged("10: a 25th of a full desk", Desks::full, full -> full.hearing(0, 500, 0, 10, 0, 1, 1), NONE);
    }

    /** "4 at most of one DAY"; "NONE: 24, 4 of that DAY" */
    private static void fourOfADay() {
        for (int day : new int[] {0, 500, 999}) {
            HearingDesk x = new HearingDesk();
            for (int h = 0; h < 4; h++) {
                Due.is("10: " + h + " of day " + day, x.hearing(0, day, 0, 10, 0, 1, 1), h);
            }
            Due.is("10: a fifth of day " + day, x.hearing(0, day, 700, 10, 0, 1, 1), NONE);
            Due.is("10: another day", x.hearing(0, day == 0 ? 1 : day - 1, 700, 10, 0, 1, 1), 4);
            x.plan(day, false);
            Due.is("10: four to plan", x.planned(0), 4);
        }
        Twins.unchanged("10: a fifth", Desks::crowded, x -> x.hearing(0, 7, 0, 10, 0, 1, 1), NONE);
    }

    /** "4 at most of one DAY that are not CANCELLED" */
    private static void fourButForCancelled() {
        HearingDesk x = Desks.crowded();
        Due.is("10: three and a cancelled one, a fourth", x.hearing(0, 8, 0, 10, 0, 1, 1), 9);
        Due.is("10: a fifth", x.hearing(0, 8, 0, 10, 0, 1, 1), NONE);
        for (int h = 4; h <= 6; h++) {
            x.cancel(h, 0);
        }
        for (int h = 10; h <= 12; h++) {
            Due.is("10: in a cancelled one's place", x.hearing(0, 8, 0, 10, 0, 1, 1), h);
        }
        Due.is("10: four again", x.hearing(0, 8, 0, 10, 0, 1, 1), NONE);
    }

    /** The same of a DAY that one has left, or has come to */
    private static void fourButForMoved() {
        HearingDesk x = Desks.crowded();
        Due.is("11: to a day of one", x.move(0, 9, 0), true);
        Due.is("10: the day it left", x.hearing(0, 7, 0, 10, 0, 1, 1), 9);
        Due.is("10: no more there", x.hearing(0, 7, 0, 10, 0, 1, 1), NONE);
        Due.is("10: the day it came to, a third", x.hearing(0, 9, 0, 10, 0, 1, 1), 10);
        Due.is("10: a fourth", x.hearing(0, 9, 0, 10, 0, 1, 1), 11);
        Due.is("10: a fifth", x.hearing(0, 9, 0, 10, 0, 1, 1), NONE);
    }

    /** "A HEARING is moved to a DAY and begin: true; false, and nothing happens: .. not as told": not beyond 1440 */
    private static void movedNotBeyondTheDay() {
        for (int length : new int[] {10, 90, 240}) {
            HearingDesk x = new HearingDesk();
            x.hearing(0, 0, 0, length, 0, 1, 1);
            Due.is("11: to the end of a day", x.move(0, 999, 1440 - length), true);
            Due.is("11: beyond it", x.move(0, 999, 1441 - length), false);
            Due.is("11: the last minute", x.move(0, 999, 1439), false);
            Due.is("11: the first minute", x.move(0, 0, 0), true);
            Due.is("11: ahead of it", x.move(0, 0, -1), false);
        }
        Twins.unchanged("11: beyond the day", Desks::busy, x -> Twins.bit(x.move(0, 500, 1381)), 0);
    }

    /** "4 of that DAY (but for it)": from another DAY */
    private static void movedToAFullDay() {
        Twins.unchanged("11: to a day of four", Desks::crowded, x -> Twins.bit(x.move(8, 7, 1300)), 0);
        HearingDesk x = Desks.crowded();
        Due.is("11: to a day of four", x.move(8, 7, 1300), false);
        Due.is("11: it has its journeys where it was", x.journeys(0, 9), 120);
        Due.is("11: to a day of three and a cancelled one", x.move(8, 8, 1300), true);
        Due.is("11: that has four now", x.move(0, 8, 1300), false);
        Due.is("11: and the one it left none", x.plan(9, false) + x.planned(0), 0);
    }

    /** "4 of that DAY (but for it)": on its own DAY */
    private static void movedOnItsOwnDay() {
        HearingDesk x = Desks.crowded();
        for (int h = 0; h < 4; h++) {
            Due.is("11: one of four, " + h, x.move(h, 7, 300 * h + 1), true);
        }
        Due.is("11: to where it is", x.move(3, 7, 901), true);
        x.plan(7, false);
        Due.is("11: four as before", x.planned(0), 4);
    }

    /** "false, and nothing happens: none such, CANCELLED" */
    private static void cancelledStays() {
        Twins.unchanged("11: a cancelled one", Desks::busy, x -> Twins.bit(x.move(Desks.CANCELLED_HEARING, 999, 0)), 0);
        HearingDesk x = Desks.busy();
        long before = x.fee(0, 0);
        Due.is("11: a cancelled one", x.move(Desks.CANCELLED_HEARING, 1, 0), false);
        Due.is("11: its fee is where it was", x.fee(0, 0), before);
        Due.is("11: not on the other day", x.fee(0, 1), 0);
        Due.is("11: none such", x.move(Desks.BUSY_HEARINGS, 1, 0), false);
    }

    /** "A HEARING is CANCELLED, ..: true; false, and nothing happens: .. CANCELLED already": the first MINUTES stay */
    private static void cancelledOnce() {
        HearingDesk x = Desks.busy();
        Due.is("12: one is cancelled", x.count(3), 1);
        Due.is("12: 0 minutes ahead", x.cancel(0, 0), true);
        Due.is("12: 100000 minutes ahead", x.cancel(1, 100000), true);
        Due.is("12: three are", x.count(3), 3);
        Due.is("12: still hearings", x.count(2), Desks.BUSY_HEARINGS);
        // Person 1 has hearing 0 of 60 coins, halved, and nothing of hearing 1.
        Due.is("12: fee", x.fee(1, 0), 30);
        Due.is("12: already", x.cancel(0, 100000), false);
        Due.is("12: already, late this time", x.cancel(1, 0), false);
        Due.is("12: fee as before", x.fee(1, 0), 30);
        Due.is("12: three as before", x.count(3), 3);
        Twins.unchanged("12: already", Desks::busy, y -> Twins.bit(y.cancel(Desks.CANCELLED_HEARING, 700)), 0);
    }

    /** "whose GRADES in 0 and its TONGUE are at least its grade" */
    private static void fitByBothGrades() {
        for (int grade = 1; grade <= 5; grade++) {
            for (int inCourt = 1; inCourt <= 5; inCourt++) {
                for (int inTongue = 1; inTongue <= 5; inTongue++) {
                    HearingDesk x = desk(1, row(0, 0, inCourt), row(0, 6, inTongue));
                    x.hearing(0, 0, 0, 10, 0, 6, grade);
                    boolean isFit = inCourt >= grade && inTongue >= grade;
                    Due.is("13: " + inCourt + " and " + inTongue + " for " + grade, x.teams(0), isFit ? 1 : 0);
                }
            }
        }
        HearingDesk x = desk(3, row(0, 0, 5), row(1, 6, 5));
        x.hearing(0, 0, 0, 10, 0, 6, 1);
        Due.is("13: no paper for the one or the other", x.teams(0), 0);
    }

    /** "LONG ones ..: two FIT PERSONS": one of the four GRADES is 1 less */
    private static void bothOfAPairFit() {
        for (int tongue = 1; tongue <= 9; tongue += 4) {
            for (int less = 0; less <= 4; less++) {
                HearingDesk x = desk(2, row(0, 0, less == 1 ? 2 : 3), row(0, tongue, less == 2 ? 2 : 3),
                        row(1, 0, less == 3 ? 2 : 3), row(1, tongue, less == 4 ? 2 : 3));
                x.hearing(0, 0, 0, 91, 0, tongue, 3);
                Due.is("13: pair for " + tongue + ", less is " + less, x.teams(0), less == 0 ? 1 : 0);
            }
        }
    }

    /** "at least its grade on its DAY" */
    private static void fitOnItsDay() {
        HearingDesk x = desk(1, row(0, 0, 5));
        x.paper(0, 1, 5, 10, 20);
        x.hearing(0, 9, 0, 10, 0, 1, 1);
        int[][] fits = {{9, 0}, {10, 1}, {20, 1}, {21, 0}};
        for (int[] fit : fits) {
            x.move(0, fit[0], 0);
            Due.is("13: on day " + fit[0], x.teams(0), fit[1]);
        }
        x.move(0, 20, 0);
        x.withdraw(0, 19);
        Due.is("13: the court's tongue on day 20", x.teams(0), 0);
        x.move(0, 19, 0);
        Due.is("13: the court's tongue on day 19", x.teams(0), 1);
    }

    /** "a PERSON not BARRED from its CASE" */
    private static void fitIfNotBarred() {
        for (int which = 0; which < 20; which += 19) {
            HearingDesk x = desk(2, row(0, 0, 1), row(0, 1, 1), row(1, 0, 1), row(1, 1, 1));
            x.hearing(which, 0, 0, 10, 0, 1, 1);
            x.bar(0, 19 - which, true);
            Due.is("13: barred from another case", x.teams(0), 2);
            x.bar(0, which, true);
            teams("13: barred", x, 0, row(1, NONE, NONE));
            x.bar(1, which, true);
            teams("13: both barred", x, 0);
            x.bar(0, which, false);
            teams("13: no more", x, 0, row(0, NONE, NONE));
        }
    }

    /** "LONG ones (above 90 MINUTES): two FIT PERSONS .. Others: each FIT PERSON" */
    private static void longAboveNinety() {
        HearingDesk x = desk(2, row(0, 0, 1), row(0, 1, 1), row(1, 0, 1), row(1, 1, 1));
        for (int length : new int[] {10, 89, 90, 91, 92, 240}) {
            int h = x.hearing(0, length, 0, length, 0, 1, 1);
            if (length > 90) {
                teams("13: of " + length, x, h, row(0, 1, NONE));
            } else {
                teams("13: of " + length, x, h, row(0, NONE, NONE), row(1, NONE, NONE));
            }
        }
        x.bar(0, 0, true);
        Due.is("13: one fit person for 90", x.teams(2), 1);
        Due.is("13: one fit person for 91", x.teams(3), 0);
    }

    /** "two FIT PERSONS, the lesser number first, by first, then second": the most of them */
    private static void pairsInOrder() {
        HearingDesk x = desk(5);
        for (int p = 4; p >= 0; p--) {
            x.paper(p, 1, 1, 0, 999);
            x.paper(p, 0, 1, 0, 999);
        }
        x.hearing(0, 0, 0, 91, 0, 1, 1);
        teams("14: ten pairs", x, 0, row(0, 1, NONE), row(0, 2, NONE), row(0, 3, NONE), row(0, 4, NONE), row(1, 2, NONE),
                row(1, 3, NONE), row(1, 4, NONE), row(2, 3, NONE), row(2, 4, NONE), row(3, 4, NONE));
        x.bar(2, 0, true);
        teams("14: six pairs", x, 0, row(0, 1, NONE), row(0, 3, NONE), row(0, 4, NONE), row(1, 3, NONE), row(1, 4, NONE),
                row(3, 4, NONE));
    }

    /** "Others: each FIT PERSON by numbers": the most of them */
    private static void onesInOrder() {
        HearingDesk x = desk(5);
        for (int p = 4; p >= 0; p--) {
            x.paper(p, 9, 1, 0, 999);
            x.paper(p, 0, 1, 0, 999);
        }
        x.hearing(0, 0, 0, 90, 0, 9, 1);
        teams("14: five", x, 0, row(0, NONE, NONE), row(1, NONE, NONE), row(2, NONE, NONE), row(3, NONE, NONE),
                row(4, NONE, NONE));
    }

    /** "where there is none: RELAYS": of LONG ones never */
    private static void relaysWhereNoneIsFit() {
        HearingDesk x = desk(3, row(0, 0, 3), row(0, 5, 3), row(1, 5, 3), row(1, 2, 3), row(2, 0, 3), row(2, 2, 3));
        x.hearing(0, 0, 0, 90, 0, 2, 3);
        x.hearing(0, 0, 0, 91, 0, 2, 3);
        teams("13: one is fit", x, 0, row(2, NONE, NONE));
        teams("13: one is fit for a long one", x, 1);
        x.bar(2, 0, true);
        teams("13: none is fit", x, 0, row(0, 1, 5));
        teams("13: none is fit for a long one", x, 1);
    }

    /** "by X, then Y": the most of them, for who is of 0 is not of the HEARING's TONGUE */
    private static void relaysInOrder() {
        HearingDesk x = desk(5, row(3, 0, 1), row(3, 4, 1), row(1, 0, 1), row(1, 4, 1), row(4, 4, 1), row(4, 8, 1),
                row(2, 4, 1), row(2, 8, 1), row(0, 4, 1), row(0, 8, 1));
        x.hearing(0, 0, 0, 10, 0, 8, 1);
        teams("14: six relays", x, 0, row(1, 0, 4), row(1, 2, 4), row(1, 4, 4), row(3, 0, 4), row(3, 2, 4), row(3, 4, 4));
    }

    /** "for a TONGUE m (1 to 9, another one than the HEARING's": each of them, and not 0 */
    private static void relayByAnotherTongue() {
        for (int tongue = 1; tongue <= 9; tongue += 4) {
            for (int m = 0; m <= 9; m++) {
                HearingDesk x = desk(2, row(0, 0, 2), row(0, m, 2), row(1, m, 2), row(1, tongue, 2));
                x.hearing(0, 0, 0, 10, 0, tongue, 2);
                if (m == tongue) {
                    teams("14: by its own tongue " + tongue, x, 0, row(0, NONE, NONE));
                } else if (m == 0) {
                    teams("14: by the court's tongue", x, 0, row(1, NONE, NONE));
                } else {
                    teams("14: " + tongue + " by " + m, x, 0, row(0, 1, m));
                }
            }
        }
    }

    /** "the least such)": by both persons' GRADES */
    private static void relayByTheLeastTongue() {
        HearingDesk x = desk(2, row(0, 0, 3), row(0, 1, 2), row(0, 4, 3), row(0, 6, 3), row(0, 9, 3), row(1, 5, 3),
                row(1, 1, 3), row(1, 4, 2), row(1, 9, 3));
        x.hearing(0, 0, 0, 10, 0, 5, 3);
        teams("14: by 9", x, 0, row(0, 1, 9));
        x.paper(1, 6, 3, 0, 999);
        teams("14: by 6", x, 0, row(0, 1, 6));
        x.paper(1, 4, 3, 0, 999);
        teams("14: by 4", x, 0, row(0, 1, 4));
        x.paper(0, 1, 3, 0, 999);
        teams("14: by 1", x, 0, row(0, 1, 1));
    }

    /** "X is of its grade in 0 and m, Y in m and the HEARING's": one of the four is 1 less */
    private static void relayGrades() {
        for (int grade = 2; grade <= 5; grade++) {
            for (int less = 0; less <= 4; less++) {
                HearingDesk x = desk(2, row(0, 0, less == 1 ? grade - 1 : grade), row(0, 3, less == 2 ? grade - 1 : grade),
                        row(1, 3, less == 3 ? grade - 1 : grade), row(1, 7, less == 4 ? grade - 1 : grade));
                x.hearing(0, 0, 0, 10, 0, 7, grade);
                Due.is("13: relay of grade " + grade + ", less is " + less, x.teams(0), less == 0 ? 1 : 0);
            }
        }
        HearingDesk x = desk(2, row(0, 0, 5), row(0, 3, 5), row(1, 3, 5), row(1, 7, 5));
        x.hearing(0, 0, 0, 10, 0, 7, 1);
        teams("14: of a greater grade", x, 0, row(0, 1, 3));
    }

    /** "two PERSONS X, Y, not BARRED" */
    private static void relayNotBarred() {
        HearingDesk x = desk(2, row(0, 0, 3), row(0, 3, 3), row(1, 3, 3), row(1, 7, 3));
        x.hearing(19, 0, 0, 10, 0, 7, 3);
        x.bar(0, 18, true);
        x.bar(1, 18, true);
        Due.is("13: barred from another case", x.teams(0), 1);
        x.bar(0, 19, true);
        Due.is("13: X is barred", x.teams(0), 0);
        x.bar(0, 19, false);
        x.bar(1, 19, true);
        Due.is("13: Y is barred", x.teams(0), 0);
        x.bar(1, 19, false);
        Due.is("13: no more", x.teams(0), 1);
    }

    /** "two PERSONS X, Y": one who is of all three TONGUES is no relay by himself, nor when he is BARRED */
    private static void relayOfTwo() {
        HearingDesk x = desk(2, row(0, 0, 3), row(0, 3, 3), row(0, 7, 3));
        x.hearing(0, 0, 0, 10, 0, 7, 3);
        teams("14: he is fit", x, 0, row(0, NONE, NONE));
        x.bar(0, 0, true);
        teams("14: he is barred", x, 0);
        x.bar(0, 0, false);
        x.withdraw(0, 0);
        x.move(0, 1, 0);
        teams("14: he is not of the court's tongue", x, 0);
    }

    /** "what 0: the first PERSON, 1: the second (NONE of one), 2: the TONGUE of a RELAY (NONE). NONE without it" */
    private static void teamParts() {
        HearingDesk x = Desks.busy();
        teams("14: of one", x, 0, row(0, NONE, NONE), row(1, NONE, NONE));
        teams("14: of a pair", x, 1, row(0, 1, NONE));
        teams("14: of a relay", x, 2, row(0, 2, 7));
        teams("14: of a cancelled one", x, 3, row(0, NONE, NONE), row(1, NONE, NONE));
        for (int what = -1; what <= 3; what++) {
            Due.is("14: team -1, what " + what, x.team(2, -1, what), NONE);
            Due.is("14: team 1, what " + what, x.team(2, 1, what), NONE);
            Due.is("14: no such hearing, what " + what, x.team(Desks.BUSY_HEARINGS, 0, what), NONE);
        }
        HearingDesk none = new HearingDesk();
        none.hearing(0, 0, 0, 10, 0, 1, 1);
        none.hearing(0, 0, 0, 91, 0, 1, 1);
        teams("13: no persons", none, 0);
        teams("13: no persons for a long one", none, 1);
        Due.is("13: no hearing", none.teams(2), NONE);
    }
}
