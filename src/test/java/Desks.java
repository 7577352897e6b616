/** Desks to test on; busy, full and crowded have so much in every part that a call can be seen to change nothing. */
final class Desks {
    static final String FEES = "from 0 rate 3 60;from 0 rate 2 90;from 0 least 45;from 0 way 3;from 0 pair 75;"
            + "from 0 relay 150;from 0 late 600 50";
    static final String ON_TAPE = "from 0 way 9";
    static final int BUSY_PERSONS = 3;
    static final int BUSY_PAPERS = 8;
    static final int BUSY_HEARINGS = 5;
    static final int BUSY_ASKED = 2;
    static final int LATEST_ASKED_DAY = 5;
    static final int LONG_HEARING = 1;
    static final int LONG_LENGTH = 100;
    static final int CANCELLED_HEARING = 3;

    private Desks() {
    }

    /** Room is left for more of everything. Hearing 0 has one person, 1 a pair, 2 a relay, 3 is cancelled, 4 not planned. */
    static HearingDesk busy() {
        HearingDesk x = new HearingDesk();
        x.person(0);
        x.person(1);
        x.person(5);
        x.way(0, 1, 45);
        x.way(1, 5, 100);
        x.dialect(3, 1);
        int[][] papers = {{0, 0, 4, 0, 999}, {0, 1, 4, 0, 999}, {1, 0, 5, 0, 999}, {1, 1, 4, 0, 999}, {2, 2, 3, 0, 999},
            {2, 7, 3, 0, 999}, {0, 7, 4, 0, 999}, {1, 9, 2, 10, 20}};
        for (int[] n : papers) {
            x.paper(n[0], n[1], n[2], n[3], n[4]);
        }
        x.bar(1, 2, true);
        x.hearing(0, 0, 540, 60, 1, 1, 3);
        x.hearing(1, 0, 700, LONG_LENGTH, 0, 1, 2);
        x.hearing(2, 999, 600, 30, 5, 2, 3);
        x.hearing(3, 0, 900, 60, 0, 3, 3);
        x.hearing(4, 500, 600, 60, 3, 1, 3);
        x.plan(999, false);
        x.plan(0, false);
        x.cancel(CANCELLED_HEARING, 100);
        Due.fees(x, FEES);
        Due.type(x, ON_TAPE);
        x.ask(0, 0, 3);
        x.ask(1, 1, LATEST_ASKED_DAY);
        x.answer(0, 7, false, 2);
        x.rest(25);
        return x;
    }

    /** As many persons, papers, hearings, asked and bytes as there may be; four hearings on each of six days. */
    static HearingDesk full() {
        HearingDesk x = new HearingDesk();
        for (int p = 0; p < 5; p++) {
            x.person(p);
        }
        for (int i = 0; i < 40; i++) {
            x.paper(i % 5, i / 5, 1 + i % 4, 0, 999);
        }
        for (int h = 0; h < 24; h++) {
            x.hearing(h % 20, h < 20 ? h / 4 : 999, 240 * (h % 4), 60 + 20 * (h % 4), h % 6, 1 + h % 7, 1);
        }
        x.plan(0, false);
        x.plan(999, false);
        for (int i = 0; i < 60; i++) {
            x.ask(i % 24, i % 5, i);
        }
        Due.fees(x, FEES);
        Due.type(x, filled("from 0 way 9; from 0 least 30", 600));
        return x;
    }

    /** Four hearings on day 7 (0 to 3), three and a cancelled one on day 8 (4 to 6, 7), one on day 9 (8). */
    static HearingDesk crowded() {
        HearingDesk x = new HearingDesk();
        x.person(0);
        x.paper(0, 0, 5, 0, 999);
        x.paper(0, 1, 5, 0, 999);
        for (int h = 0; h < 9; h++) {
            x.hearing(h, 7 + h / 4, 300 * (h % 4), 60, 1, 1, 1);
        }
        for (int day = 7; day <= 9; day++) {
            x.plan(day, false);
        }
        x.cancel(7, 0);
        return x;
    }

    /** So many persons of town 0, each of grade 3 in the tongues 0 and 1 on all days. */
    static HearingDesk fitOnes(int persons) {
        HearingDesk x = new HearingDesk();
        for (int p = 0; p < persons; p++) {
            x.person(0);
            fit(x, p);
        }
        return x;
    }

    static void fit(HearingDesk x, int person) {
        x.paper(person, 0, 3, 0, 999);
        x.paper(person, 1, 3, 0, 999);
    }

    /** Two persons, and two hearings of day 500 to ask them for. */
    static HearingDesk twoAndTwo() {
        HearingDesk x = new HearingDesk();
        x.person(0);
        x.person(0);
        x.hearing(0, 500, 0, 60, 0, 1, 1);
        x.hearing(0, 500, 0, 60, 0, 1, 1);
        return x;
    }

    /** A text with blanks behind it up to a length. */
    static String filled(String text, int length) {
        return text + " ".repeat(length - text.length());
    }
}
