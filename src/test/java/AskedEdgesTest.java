/**
 * The Terms V and the promises 25 to 29: a test for each sentence that names an edge, with the sentence above it.
 * RangesTest has each argument's bounds.
 */
public final class AskedEdgesTest {
    private static final int NONE = HearingDesk.NONE;

    public static void main(String[] args) {
        sixtyAsked();
        aheadOfTheLatest();
        refusedIsNotTheLatest();
        askedForAny();
        answeredOnce();
        answeredFromTheAsking();
        answerOutOfBounds();
        yesOrNo();
        knownFromTheAsking();
        knownAnswer();
        knownParts();
        refusalsByADay();
        refusalsOfAHearing();
        refusalsOfNone();
        countsAtTheirMost();
        Due.end();
    }

    /** "ASKED: 60 at most, 0, 1, .."; "NONE: 60": what is refused takes no number */
    private static void sixtyAsked() {
        HearingDesk x = Desks.twoAndTwo();
        for (int i = 0; i < 60; i++) {
            Due.is("25: refused ahead of " + i, x.ask(2, 0, 10), NONE);
            Due.is("25: asked " + i, x.ask(i % 2, i / 2 % 2, 10), i);
        }
        Due.is("25: a 61st", x.ask(0, 0, 10), NONE);
        Due.is("25: a 61st, later", x.ask(0, 0, 999), NONE);
        Due.is("29: sixty", x.count(4), 60);
        Due.is("26: the last", x.answer(59, 10, false, 9), true);
        Due.is("26: none behind it", x.answer(60, 10, false, 9), false);
        Due.is("27: the last", x.known(59, 10, 0), 1);
        Due.is("27: none behind it", x.known(60, 999, 0), NONE);
        Due.is("28: the last", x.refusals(1, 10), 1);
        Twins.unchanged("25: a 61st", Desks::full, full -> full.ask(0, 0, 999), NONE);
    }

    /** "or a DAY ahead of that of the latest ASKED" */
    private static void aheadOfTheLatest() {
        HearingDesk x = Desks.twoAndTwo();
        Due.is("25: the first on any day", x.ask(0, 0, 500), 0);
        Due.is("25: a day ahead", x.ask(1, 1, 499), NONE);
        Due.is("25: the same day", x.ask(1, 1, 500), 1);
        Due.is("25: a day behind", x.ask(1, 1, 501), 2);
        Due.is("25: a day ahead of that", x.ask(1, 1, 500), NONE);
        Due.is("25: the last day", x.ask(1, 1, 999), 3);
        Due.is("25: a day ahead of the last", x.ask(1, 1, 998), NONE);
        Due.is("25: the last day again", x.ask(1, 1, 999), 4);
        Due.is("29: five", x.count(4), 5);
        Due.is("25: the first on day 0", Desks.twoAndTwo().ask(0, 0, 0), 0);
    }

    /** The same: what was refused was not ASKED, and the DAY of an answer is none of asking */
    private static void refusedIsNotTheLatest() {
        HearingDesk x = Desks.twoAndTwo();
        x.ask(0, 0, 5);
        Due.is("25: no such person", x.ask(0, 2, 900), NONE);
        Due.is("25: no such hearing", x.ask(2, 0, 900), NONE);
        Due.is("25: no such day", x.ask(0, 0, 1000), NONE);
        x.answer(0, 800, true, 0);
        Due.is("25: day 5 is as late as any", x.ask(0, 0, 5), 1);
        Twins.unchanged("25: ahead of the latest", Desks::busy, y -> y.ask(0, 0, Desks.LATEST_ASKED_DAY - 1), NONE);
    }

    /** "A PERSON is ASKED for a HEARING on a DAY": the same again, on a DAY behind the HEARING's, for a CANCELLED one */
    private static void askedForAny() {
        HearingDesk x = Desks.twoAndTwo();
        Due.is("25: once", x.ask(0, 0, 500), 0);
        Due.is("25: again", x.ask(0, 0, 500), 1);
        Due.is("25: behind its day", x.ask(0, 0, 501), 2);
        x.cancel(0, 0);
        Due.is("25: cancelled", x.ask(0, 1, 501), 3);
        Due.is("25: the last hearing and person", x.ask(1, 1, 501), 4);
    }

    /** "false, and nothing happens: none such, answered already": what was said first stays */
    private static void answeredOnce() {
        HearingDesk x = Desks.twoAndTwo();
        x.ask(0, 0, 5);
        x.ask(0, 1, 5);
        Due.is("26: none such", x.answer(2, 5, false, 0), false);
        Due.is("26: none such -1", x.answer(-1, 5, false, 0), false);
        Due.is("26: no", x.answer(0, 9, false, 3), true);
        Due.is("26: already", x.answer(0, 9, true, 4), false);
        Due.is("26: already, earlier", x.answer(0, 6, true, 4), false);
        Due.is("27: not known on 8", x.known(0, 8, 3), NONE);
        Due.is("27: no", x.known(0, 9, 3), 0);
        Due.is("27: why", x.known(0, 9, 4), 3);
        Due.is("26: the other one", x.answer(1, 9, true, 4), true);
        Due.is("27: yes", x.known(1, 9, 3), 1);
        Twins.unchanged("26: already", Desks::busy, y -> Twins.bit(y.answer(0, 8, true, 5)), 0);
    }

    /** "the DAY not from that of the asking to 999" */
    private static void answeredFromTheAsking() {
        for (int asked : new int[] {0, 1, 500, 999}) {
            HearingDesk x = Desks.twoAndTwo();
            x.ask(0, 0, asked);
            Due.is("26: a day ahead of " + asked, x.answer(0, asked - 1, false, 0), false);
            Due.is("26: day 1000", x.answer(0, 1000, false, 0), false);
            Due.is("28: none yet", x.refusals(0, 999), 0);
            Due.is("26: the same day", x.answer(0, asked, false, 0), true);
            Due.is("28: one", x.refusals(0, asked), 1);
            HearingDesk y = Desks.twoAndTwo();
            y.ask(0, 0, asked);
            Due.is("26: the last day", y.answer(0, 999, false, 0), true);
            Due.is("28: on the last day", y.refusals(0, 999), 1);
            Due.is("28: a day ahead", y.refusals(0, 998), 0);
        }
        HearingDesk x = Desks.twoAndTwo();
        x.ask(0, 0, 5);
        x.ask(0, 0, 9);
        Due.is("26: from its own asking, not the latest", x.answer(0, 5, true, 0), true);
    }

    /** "why not 0 to 9": what was refused can be answered still */
    private static void answerOutOfBounds() {
        for (int why = -1; why <= 10; why++) {
            HearingDesk x = Desks.twoAndTwo();
            x.ask(0, 0, 5);
            boolean isOne = why >= 0 && why <= 9;
            Due.is("26: why " + why, x.answer(0, 5, true, why), isOne);
            Due.is("27: why " + why, x.known(0, 5, 4), isOne ? why : NONE);
            Due.is("27: said with why " + why, x.known(0, 5, 3), isOne ? 1 : NONE);
            Due.is("26: once more", x.answer(0, 5, false, 0), !isOne);
        }
    }

    /** "3: 1 yes, 0 no, NONE not answered, 4: why (NONE)": with either answer any why */
    private static void yesOrNo() {
        HearingDesk x = Desks.twoAndTwo();
        for (int i = 0; i < 3; i++) {
            x.ask(0, 0, 0);
        }
        x.answer(0, 0, true, 0);
        x.answer(1, 0, false, 9);
        int[][] due = {{1, 0}, {0, 9}, {NONE, NONE}};
        for (int i = 0; i < 3; i++) {
            Due.is("27: said, " + i, x.known(i, 0, 3), due[i][0]);
            Due.is("27: why, " + i, x.known(i, 0, 4), due[i][1]);
        }
    }

    /** "KNOWN on a DAY: those asked by then"; "NONE if it is not KNOWN then" */
    private static void knownFromTheAsking() {
        HearingDesk x = Desks.twoAndTwo();
        x.ask(1, 0, 0);
        x.ask(0, 1, 500);
        x.ask(1, 1, 999);
        int[][] asked = {{1, 0, 0}, {0, 1, 500}, {1, 1, 999}};
        for (int i = 0; i < 3; i++) {
            for (int what = 0; what < 3; what++) {
                int day = asked[i][2];
                Due.is("27: " + i + " the day ahead, " + what, x.known(i, day - 1, what), NONE);
                Due.is("27: " + i + " that day, " + what, x.known(i, day, what), asked[i][what]);
                Due.is("27: " + i + " the last day, " + what, x.known(i, 999, what), asked[i][what]);
                Due.is("27: " + i + " no day, " + what, x.known(i, 1000, what), NONE);
            }
        }
    }

    /** "answers by then" */
    private static void knownAnswer() {
        HearingDesk x = Desks.twoAndTwo();
        x.ask(0, 0, 5);
        x.answer(0, 9, true, 7);
        int[][] due = {{4, NONE, NONE, NONE}, {5, 0, NONE, NONE}, {8, 0, NONE, NONE}, {9, 0, 1, 7}, {10, 0, 1, 7}};
        for (int[] n : due) {
            Due.is("27: the hearing on " + n[0], x.known(0, n[0], 0), n[1]);
            Due.is("27: said on " + n[0], x.known(0, n[0], 3), n[2]);
            Due.is("27: why on " + n[0], x.known(0, n[0], 4), n[3]);
        }
    }

    /** "or for another what"; of none that was ASKED */
    private static void knownParts() {
        HearingDesk x = Desks.twoAndTwo();
        x.ask(1, 1, 5);
        x.answer(0, 5, true, 6);
        int[] due = {NONE, 1, 1, 5, 1, 6, NONE};
        for (int what = -1; what <= 5; what++) {
            Due.is("27: what " + what, x.known(0, 5, what), due[what + 1]);
            Due.is("27: of 1, what " + what, x.known(1, 999, what), NONE);
            Due.is("27: of -1, what " + what, x.known(-1, 999, what), NONE);
        }
        x.move(1, 900, 0);
        x.cancel(1, 0);
        Due.is("27: its hearing is cancelled", x.known(0, 5, 0), 1);
    }

    /** "How many KNOWN on a DAY .. said no": each from the DAY of its answer on */
    private static void refusalsByADay() {
        HearingDesk x = Desks.twoAndTwo();
        for (int i = 0; i < 4; i++) {
            x.ask(0, i % 2, i);
        }
        x.answer(0, 999, false, 0);
        x.answer(1, 5, false, 1);
        x.answer(2, 5, true, 2);
        int[][] due = {{0, 0}, {4, 0}, {5, 1}, {998, 1}, {999, 2}};
        for (int[] n : due) {
            Due.is("28: on " + n[0], x.refusals(0, n[0]), n[1]);
            Due.is("28: all on " + n[0], x.refusals(NONE, n[0]), n[1]);
        }
    }

    /** "for a HEARING (NONE: all)" */
    private static void refusalsOfAHearing() {
        HearingDesk x = new HearingDesk();
        x.person(0);
        for (int h = 0; h < 24; h++) {
            x.hearing(0, h, 0, 60, 0, 1, 1);
        }
        Due.is("28: none asked", x.refusals(NONE, 0), 0);
        Due.is("28: none asked for 23", x.refusals(23, 0), 0);
        for (int i = 0; i < 6; i++) {
            x.ask(i < 2 ? 0 : 23, 0, 0);
            x.answer(i, 0, i == 5, 0);
        }
        Due.is("28: for 0", x.refusals(0, 0), 2);
        Due.is("28: for 1", x.refusals(1, 0), 0);
        Due.is("28: for 23", x.refusals(23, 0), 3);
        Due.is("28: all", x.refusals(NONE, 0), 5);
        x.cancel(23, 0);
        Due.is("28: for 23, cancelled", x.refusals(23, 0), 3);
        Due.is("28: for 24", x.refusals(24, 0), NONE);
        Due.is("28: for -2", x.refusals(-2, 0), NONE);
    }

    /** "NONE without such": of HEARING and DAY each */
    private static void refusalsOfNone() {
        HearingDesk x = new HearingDesk();
        Due.is("28: no hearings", x.refusals(0, 0), NONE);
        Due.is("28: all of none", x.refusals(NONE, 0), 0);
        Due.is("28: all of none on day 999", x.refusals(NONE, 999), 0);
        Due.is("28: no day 1000", x.refusals(NONE, 1000), NONE);
        Due.is("28: no day -1", x.refusals(NONE, -1), NONE);
    }

    /** "What 0: PERSONS, 1: PAPERS, 2: HEARINGS, 3: CANCELLED ones, 4: ASKED, 5: bytes of the TAPE ..": the most of each */
    private static void countsAtTheirMost() {
        HearingDesk x = Desks.full();
        int[] full = {5, 40, 24, 0, 60, 600, 7, 30};
        for (int what = 0; what < 8; what++) {
            Due.is("29: full, " + what, x.count(what), full[what]);
        }
        for (int h = 0; h < 24; h++) {
            x.cancel(h, h);
            Due.is("29: cancelled", x.count(3), h + 1);
        }
        Due.is("29: hearings as before", x.count(2), 24);
        x.fees();
        Due.is("29: clauses of the tape", x.count(6), 2);
        Due.is("29: no bytes", x.count(5), 0);
        x.rest(0);
        Due.is("29: the rest", x.count(7), 0);
        Due.is("29: what 8", x.count(8), NONE);
        Due.is("29: what -1", x.count(-1), NONE);
        StringBuilder many = new StringBuilder("from0way0");
        for (int i = 1; i < 60; i++) {
            many.append(";from0way").append(i % 10);
        }
        Due.fees(x, many.toString());
        Due.is("29: the most clauses", x.count(6), 60);
    }
}
