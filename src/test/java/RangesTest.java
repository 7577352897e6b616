import java.util.Arrays;
import java.util.function.Supplier;

/**
 * Every argument of every call that has bounds: at its least and most it is taken; one below, one above and far
 * outside it is refused, and nothing has happened.
 */
public final class RangesTest {
    private static final int NONE = HearingDesk.NONE;
    private static final int NO = 0;

    interface Call {
        long on(HearingDesk x, int[] n);
    }

    private static final Supplier<HearingDesk> BUSY = Desks::busy;

    public static void main(String[] args) {
        townsAndPersons();
        papers();
        hearings();
        plans();
        fees();
        asked();
        looks();
        Due.end();
    }

    /** A call with numbers that are all right, and what it answers when it refuses; its bounds follow. */
    private record Ranges(String name, Call call, long refusal, int... good) {
        Ranges bounds(int at, int least, int most) {
            for (int n : new int[] {least, most}) {
                int[] with = with(at, n);
                Twins.taken(name + Arrays.toString(with), BUSY, x -> call.on(x, with), refusal);
            }
            for (int n : outside(least, most)) {
                int[] with = with(at, n);
                Twins.unchanged(name + Arrays.toString(with), BUSY, x -> call.on(x, with), refusal);
            }
            return this;
        }

        private int[] with(int at, int n) {
            int[] all = good.clone();
            all[at] = n;
            return all;
        }
    }

    /** Just outside, some way off, what would be inside if bits were lost, and the least and most of all. */
    private static int[] outside(int least, int most) {
        int[] all = {least - 1, least - 2, least - 9, most + 1, most + 2, most + 9, least + 256, least + 65536,
            least - 65536, least + 0x40000000, Integer.MIN_VALUE, Integer.MIN_VALUE + 1, Integer.MAX_VALUE - 9,
            Integer.MAX_VALUE};
        return Arrays.stream(all).filter(n -> n < least || n > most).toArray();
    }

    private static void townsAndPersons() {
        new Ranges("2: way", (x, n) -> x.way(n[0], n[1], n[2]), NONE, 1, 3, 100)
                .bounds(0, 0, 5).bounds(1, 0, 5).bounds(2, 0, 300);
        new Ranges("3: dialect", (x, n) -> Twins.bit(x.dialect(n[0], n[1])), NO, 5, 1)
                .bounds(0, 2, 9).bounds(1, 0, 4);
        new Ranges("3: dialect of 2", (x, n) -> Twins.bit(x.dialect(n[0], n[1])), NO, 2, 1).bounds(1, 0, 1);
        new Ranges("3: dialect of 9", (x, n) -> Twins.bit(x.dialect(n[0], n[1])), NO, 9, 1).bounds(1, 0, 8);
        new Ranges("4: person", (x, n) -> x.person(n[0]), NONE, 0).bounds(0, 0, 5);
        new Ranges("8: bar", (x, n) -> Twins.bit(x.bar(n[0], n[1], true)), NO, 0, 7)
                .bounds(0, 0, Desks.BUSY_PERSONS - 1).bounds(1, 0, 19);
        new Ranges("9: rest", (x, n) -> x.rest(n[0]), NONE, 0).bounds(0, 0, 120);
    }

    private static void papers() {
        new Ranges("5: paper", (x, n) -> x.paper(n[0], n[1], n[2], n[3], n[4]), NONE, 0, 1, 5, 100, 500)
                .bounds(0, 0, Desks.BUSY_PERSONS - 1).bounds(1, 0, 9).bounds(2, 1, 5).bounds(3, 0, 500).bounds(4, 100, 999);
        new Ranges("6: withdraw", (x, n) -> Twins.bit(x.withdraw(n[0], n[1])), NO, 0, 5)
                .bounds(0, 0, Desks.BUSY_PAPERS - 1).bounds(1, 0, 999);
        new Ranges("7: grade", (x, n) -> x.grade(n[0], n[1], n[2]), NONE, 0, 1, 5)
                .bounds(0, 0, Desks.BUSY_PERSONS - 1).bounds(1, 0, 9).bounds(2, 0, 999);
    }

    private static void hearings() {
        Call hearing = (x, n) -> x.hearing(n[0], n[1], n[2], n[3], n[4], n[5], n[6]);
        new Ranges("10: hearing", hearing, NONE, 0, 0, 600, 60, 0, 1, 1)
                .bounds(0, 0, 19).bounds(1, 0, 999).bounds(2, 0, 1380).bounds(3, 10, 240).bounds(4, 0, 5).bounds(5, 1, 9)
                .bounds(6, 1, 5);
        new Ranges("10: hearing, late", hearing, NONE, 0, 0, 1300, 10, 0, 1, 1).bounds(2, 0, 1430).bounds(3, 10, 140);
        new Ranges("10: hearing, long", hearing, NONE, 0, 0, 1200, 240, 0, 1, 1).bounds(2, 0, 1200).bounds(3, 10, 240);
        Call move = (x, n) -> Twins.bit(x.move(n[0], n[1], n[2]));
        new Ranges("11: move", move, NO, 0, 500, 700)
                .bounds(0, 0, Desks.BUSY_HEARINGS - 1).bounds(1, 0, 999).bounds(2, 0, 1380);
        new Ranges("11: move a long one", move, NO, Desks.LONG_HEARING, 0, 0).bounds(2, 0, 1440 - Desks.LONG_LENGTH);
        new Ranges("12: cancel", (x, n) -> Twins.bit(x.cancel(n[0], n[1])), NO, 0, 10)
                .bounds(0, 0, Desks.BUSY_HEARINGS - 1).bounds(1, 0, 100000);
        new Ranges("13: teams", (x, n) -> x.teams(n[0]), NONE, 0).bounds(0, 0, Desks.BUSY_HEARINGS - 1);
        Call team = (x, n) -> x.team(n[0], n[1], n[2]);
        new Ranges("14: team", team, NONE, 0, 0, 0).bounds(0, 0, Desks.BUSY_HEARINGS - 1).bounds(1, 0, 1);
        new Ranges("14: team of a relay", team, NONE, 2, 0, 0).bounds(1, 0, 0).bounds(2, 0, 2);
    }

    private static void plans() {
        new Ranges("15: plan", (x, n) -> x.plan(n[0], false), NONE, 0).bounds(0, 0, 999);
        new Ranges("15: plan to keep", (x, n) -> x.plan(n[0], true), NONE, 0).bounds(0, 0, 999);
        new Ranges("16: planned", (x, n) -> x.planned(n[0]), NONE, 0).bounds(0, 0, 3);
        new Ranges("17: seat", (x, n) -> x.seat(n[0], n[1]), NONE, Desks.LONG_HEARING, 0)
                .bounds(0, 0, Desks.CANCELLED_HEARING).bounds(1, 0, 1);
        new Ranges("18: turn", (x, n) -> x.turn(n[0], n[1]), NONE, Desks.LONG_HEARING, 0)
                .bounds(0, 0, Desks.CANCELLED_HEARING).bounds(1, 0, Desks.LONG_LENGTH - 1);
        new Ranges("18: turn of one", (x, n) -> x.turn(n[0], n[1]), NONE, 0, 0).bounds(1, 0, 59);
        new Ranges("18: turn of a relay", (x, n) -> x.turn(n[0], n[1]), NONE, 2, 0).bounds(1, 0, 29);
        new Ranges("19: journeys", (x, n) -> x.journeys(n[0], n[1]), NONE, 0, 0)
                .bounds(0, 0, Desks.BUSY_PERSONS - 1).bounds(1, 0, 999);
    }

    private static void fees() {
        new Ranges("21: end", (x, n) -> x.end(n[0]), NONE, 0).bounds(0, 0, Desks.ON_TAPE.length());
        Call tells = (x, n) -> x.tells(n[0], n[1]);
        new Ranges("23: tells", tells, NONE, 0, 0).bounds(0, 0, 999);
        new Ranges("23: tells a rate", tells, NONE, 0, 11).bounds(0, 0, 999);
        tellsOfTwoRanges();
        new Ranges("24: fee", (x, n) -> x.fee(n[0], n[1]), NONE, 0, 0)
                .bounds(0, 0, Desks.BUSY_PERSONS - 1).bounds(1, 0, 999);
    }

    /** "what 0: least, .. 5: hundredths of late; 10 + g: rate of grade g. NONE .. for another what" */
    private static void tellsOfTwoRanges() {
        for (int what : new int[] {0, 5, 11, 15}) {
            Twins.taken("23: tells " + what, BUSY, x -> x.tells(0, what), NONE);
        }
        for (int what : outside(0, 15)) {
            Twins.unchanged("23: tells " + what, BUSY, x -> x.tells(0, what), NONE);
        }
        for (int what = 6; what <= 10; what++) {
            int between = what;
            Twins.unchanged("23: tells " + what, BUSY, x -> x.tells(0, between), NONE);
        }
    }

    private static void asked() {
        new Ranges("25: ask", (x, n) -> x.ask(n[0], n[1], n[2]), NONE, 0, 0, 50)
                .bounds(0, 0, Desks.BUSY_HEARINGS - 1).bounds(1, 0, Desks.BUSY_PERSONS - 1)
                .bounds(2, Desks.LATEST_ASKED_DAY, 999);
        Call answer = (x, n) -> Twins.bit(x.answer(n[0], n[1], false, n[2]));
        new Ranges("26: answer", answer, NO, 1, 9, 5).bounds(0, 1, 1).bounds(1, Desks.LATEST_ASKED_DAY, 999).bounds(2, 0, 9);
        new Ranges("27: known", (x, n) -> x.known(n[0], n[1], n[2]), NONE, 0, 7, 0)
                .bounds(0, 0, Desks.BUSY_ASKED - 1).bounds(1, 3, 999).bounds(2, 0, 4);
        new Ranges("27: known answer", (x, n) -> x.known(n[0], n[1], n[2]), NONE, 0, 7, 3).bounds(0, 0, 0).bounds(1, 7, 999);
        new Ranges("28: refusals", (x, n) -> x.refusals(n[0], n[1]), NONE, 0, 0)
                .bounds(0, NONE, Desks.BUSY_HEARINGS - 1).bounds(1, 0, 999);
        new Ranges("29: count", (x, n) -> x.count(n[0]), NONE, 0).bounds(0, 0, 7);
    }

    /** A call that only looks changes nothing when it has something to answer, either. */
    private static void looks() {
        Twins.unchanged("7: grade", BUSY, x -> x.grade(1, 3, 5), 3);
        Twins.unchanged("13: teams", BUSY, x -> x.teams(0), 2);
        Twins.unchanged("14: team", BUSY, x -> x.team(2, 0, 2), 7);
        Twins.unchanged("16: planned", BUSY, x -> x.planned(0), 3);
        Twins.unchanged("17: seat", BUSY, x -> x.seat(1, 1), 1);
        Twins.unchanged("18: turn", BUSY, x -> x.turn(1, 30), 1);
        Twins.unchanged("19: journeys", BUSY, x -> x.journeys(2, 999), 0);
        Twins.unchanged("19: journeys of another day", BUSY, x -> x.journeys(1, 0), 90);
        Twins.unchanged("21: end of all bytes", BUSY, x -> x.end(12), 12);
        Twins.unchanged("23: tells", BUSY, x -> x.tells(0, 3), 150);
        Twins.unchanged("24: fee", BUSY, x -> x.fee(1, 0), 60 + 112 + 27);
        Twins.unchanged("27: known", BUSY, x -> x.known(0, 7, 4), 2);
        Twins.unchanged("28: refusals", BUSY, x -> x.refusals(0, 7), 1);
        Twins.unchanged("29: count", BUSY, x -> x.count(6), 7);
    }
}
